section
-- ===== PART A: goes FIRST, ahead of the names: the tables' words, and 'selects' of the private methods out of them =====
/-- a private method of a class that the tables say can be made, by its rows of tables_1 -/
def lw_okq (q : MethodName × Nat) : Prop := (q.1.cls ≠ "java/lang/invoke/MethodHandle" ∧ q.1.cls ≠ "java/lang/invoke/VarHandle") ∧ Cond.instantiable q.1.cls q.2 ∈ tables_1 ∧ Cond.privateMethod q.1 ∈ tables_1 ∧ Cond.instanceMethod q.1 ∈ tables_1
theorem lw_p0 : lw_okq (⟨"SpanStore", "tableAt", "(I)LSpanStore$Table;"⟩, 5) := ⟨⟨by decide +kernel, by decide +kernel⟩, List.mem_of_getElem? (i := 11) (by decide +kernel), List.mem_of_getElem? (i := 167) (by decide +kernel), List.mem_of_getElem? (i := 168) (by decide +kernel)⟩
theorem lw_p1 : lw_okq (⟨"SpanStore", "sheetAt", "(I)LSpanStore$Sheet;"⟩, 5) := ⟨⟨by decide +kernel, by decide +kernel⟩, List.mem_of_getElem? (i := 11) (by decide +kernel), List.mem_of_getElem? (i := 188) (by decide +kernel), List.mem_of_getElem? (i := 189) (by decide +kernel)⟩
theorem lw_p2 : lw_okq (⟨"SpanStore", "found", "(I)I"⟩, 5) := ⟨⟨by decide +kernel, by decide +kernel⟩, List.mem_of_getElem? (i := 11) (by decide +kernel), List.mem_of_getElem? (i := 192) (by decide +kernel), List.mem_of_getElem? (i := 193) (by decide +kernel)⟩
theorem lw_p3 : lw_okq (⟨"SpanStore$Table", "topHiddenAmount", "()I"⟩, 4) := ⟨⟨by decide +kernel, by decide +kernel⟩, List.mem_of_getElem? (i := 22) (by decide +kernel), List.mem_of_getElem? (i := 222) (by decide +kernel), List.mem_of_getElem? (i := 223) (by decide +kernel)⟩
theorem lw_p4 : lw_okq (⟨"SpanStore$Table", "keepRows", "(LSpanStore$Block;)V"⟩, 4) := ⟨⟨by decide +kernel, by decide +kernel⟩, List.mem_of_getElem? (i := 22) (by decide +kernel), List.mem_of_getElem? (i := 229) (by decide +kernel), List.mem_of_getElem? (i := 230) (by decide +kernel)⟩
theorem lw_p5 : lw_okq (⟨"SpanStore$Table", "isKept", "(LSpanStore$Block;I)Z"⟩, 4) := ⟨⟨by decide +kernel, by decide +kernel⟩, List.mem_of_getElem? (i := 22) (by decide +kernel), List.mem_of_getElem? (i := 233) (by decide +kernel), List.mem_of_getElem? (i := 234) (by decide +kernel)⟩
theorem lw_p6 : lw_okq (⟨"SpanStore$Block", "isKnownValue", "(I)Z"⟩, 14) := ⟨⟨by decide +kernel, by decide +kernel⟩, List.mem_of_getElem? (i := 31) (by decide +kernel), List.mem_of_getElem? (i := 268) (by decide +kernel), List.mem_of_getElem? (i := 269) (by decide +kernel)⟩
theorem lw_p7 : lw_okq (⟨"SpanStore", "readBlock", "(LSpanStore$Block;)I"⟩, 5) := ⟨⟨by decide +kernel, by decide +kernel⟩, List.mem_of_getElem? (i := 11) (by decide +kernel), List.mem_of_getElem? (i := 299) (by decide +kernel), List.mem_of_getElem? (i := 300) (by decide +kernel)⟩
theorem lw_p8 : lw_okq (⟨"SpanStore$Block", "isHalf", "()Z"⟩, 14) := ⟨⟨by decide +kernel, by decide +kernel⟩, List.mem_of_getElem? (i := 31) (by decide +kernel), List.mem_of_getElem? (i := 333) (by decide +kernel), List.mem_of_getElem? (i := 334) (by decide +kernel)⟩
theorem lw_p9 : lw_okq (⟨"SpanStore$Block", "owesLeast", "()Z"⟩, 14) := ⟨⟨by decide +kernel, by decide +kernel⟩, List.mem_of_getElem? (i := 31) (by decide +kernel), List.mem_of_getElem? (i := 337) (by decide +kernel), List.mem_of_getElem? (i := 338) (by decide +kernel)⟩
theorem lw_p10 : lw_okq (⟨"SpanStore$Block", "owesGreatest", "()Z"⟩, 14) := ⟨⟨by decide +kernel, by decide +kernel⟩, List.mem_of_getElem? (i := 31) (by decide +kernel), List.mem_of_getElem? (i := 341) (by decide +kernel), List.mem_of_getElem? (i := 342) (by decide +kernel)⟩
theorem lw_p11 : lw_okq (⟨"SpanStore$Block", "groupSize", "(I)I"⟩, 14) := ⟨⟨by decide +kernel, by decide +kernel⟩, List.mem_of_getElem? (i := 31) (by decide +kernel), List.mem_of_getElem? (i := 345) (by decide +kernel), List.mem_of_getElem? (i := 346) (by decide +kernel)⟩
theorem lw_p12 : lw_okq (⟨"SpanStore$Block", "hiddenSumEnd", "(II)I"⟩, 14) := ⟨⟨by decide +kernel, by decide +kernel⟩, List.mem_of_getElem? (i := 31) (by decide +kernel), List.mem_of_getElem? (i := 368) (by decide +kernel), List.mem_of_getElem? (i := 369) (by decide +kernel)⟩
theorem lw_p13 : lw_okq (⟨"SpanStore$Block", "hiddenCountEnd", "(II)I"⟩, 14) := ⟨⟨by decide +kernel, by decide +kernel⟩, List.mem_of_getElem? (i := 31) (by decide +kernel), List.mem_of_getElem? (i := 384) (by decide +kernel), List.mem_of_getElem? (i := 385) (by decide +kernel)⟩
theorem lw_p14 : lw_okq (⟨"SpanStore", "knownPairs", "(LSpanStore$Table;LSpanStore$Table;II)I"⟩, 5) := ⟨⟨by decide +kernel, by decide +kernel⟩, List.mem_of_getElem? (i := 11) (by decide +kernel), List.mem_of_getElem? (i := 392) (by decide +kernel), List.mem_of_getElem? (i := 393) (by decide +kernel)⟩
theorem lw_p15 : lw_okq (⟨"SpanStore$Sheet", "cut", "(I)I"⟩, 4) := ⟨⟨by decide +kernel, by decide +kernel⟩, List.mem_of_getElem? (i := 123) (by decide +kernel), List.mem_of_getElem? (i := 465) (by decide +kernel), List.mem_of_getElem? (i := 466) (by decide +kernel)⟩
def lw_privs_1 : List (MethodName × Nat) := [(⟨"SpanStore", "tableAt", "(I)LSpanStore$Table;"⟩, 5), (⟨"SpanStore", "sheetAt", "(I)LSpanStore$Sheet;"⟩, 5), (⟨"SpanStore", "found", "(I)I"⟩, 5), (⟨"SpanStore$Table", "topHiddenAmount", "()I"⟩, 4), (⟨"SpanStore$Table", "keepRows", "(LSpanStore$Block;)V"⟩, 4), (⟨"SpanStore$Table", "isKept", "(LSpanStore$Block;I)Z"⟩, 4), (⟨"SpanStore$Block", "isKnownValue", "(I)Z"⟩, 14), (⟨"SpanStore", "readBlock", "(LSpanStore$Block;)I"⟩, 5), (⟨"SpanStore$Block", "isHalf", "()Z"⟩, 14), (⟨"SpanStore$Block", "owesLeast", "()Z"⟩, 14), (⟨"SpanStore$Block", "owesGreatest", "()Z"⟩, 14), (⟨"SpanStore$Block", "groupSize", "(I)I"⟩, 14), (⟨"SpanStore$Block", "hiddenSumEnd", "(II)I"⟩, 14), (⟨"SpanStore$Block", "hiddenCountEnd", "(II)I"⟩, 14), (⟨"SpanStore", "knownPairs", "(LSpanStore$Table;LSpanStore$Table;II)I"⟩, 5), (⟨"SpanStore$Sheet", "cut", "(I)I"⟩, 4)]
theorem lw_r1 : ∀ q ∈ lw_privs_1, lw_okq q := List.forall_mem_cons.mpr ⟨lw_p0, List.forall_mem_cons.mpr ⟨lw_p1, List.forall_mem_cons.mpr ⟨lw_p2, List.forall_mem_cons.mpr ⟨lw_p3, List.forall_mem_cons.mpr ⟨lw_p4, List.forall_mem_cons.mpr ⟨lw_p5, List.forall_mem_cons.mpr ⟨lw_p6, List.forall_mem_cons.mpr ⟨lw_p7, List.forall_mem_cons.mpr ⟨lw_p8, List.forall_mem_cons.mpr ⟨lw_p9, List.forall_mem_cons.mpr ⟨lw_p10, List.forall_mem_cons.mpr ⟨lw_p11, List.forall_mem_cons.mpr ⟨lw_p12, List.forall_mem_cons.mpr ⟨lw_p13, List.forall_mem_cons.mpr ⟨lw_p14, List.forall_mem_cons.mpr ⟨lw_p15, fun _ h => absurd h List.not_mem_nil⟩⟩⟩⟩⟩⟩⟩⟩⟩⟩⟩⟩⟩⟩⟩⟩
theorem lw_p16 : lw_okq (⟨"SpanStoreModel", "lays", "(IIII)V"⟩, 23) := ⟨⟨by decide +kernel, by decide +kernel⟩, List.mem_of_getElem? (i := 519) (by decide +kernel), List.mem_of_getElem? (i := 611) (by decide +kernel), List.mem_of_getElem? (i := 612) (by decide +kernel)⟩
theorem lw_p17 : lw_okq (⟨"SpanStoreModel", "meets", "(I)I"⟩, 23) := ⟨⟨by decide +kernel, by decide +kernel⟩, List.mem_of_getElem? (i := 519) (by decide +kernel), List.mem_of_getElem? (i := 622) (by decide +kernel), List.mem_of_getElem? (i := 623) (by decide +kernel)⟩
theorem lw_p18 : lw_okq (⟨"SpanStoreModel", "seals", "(II)V"⟩, 23) := ⟨⟨by decide +kernel, by decide +kernel⟩, List.mem_of_getElem? (i := 519) (by decide +kernel), List.mem_of_getElem? (i := 634) (by decide +kernel), List.mem_of_getElem? (i := 635) (by decide +kernel)⟩
theorem lw_p19 : lw_okq (⟨"SpanStoreModel", "keeps", "(III)Z"⟩, 23) := ⟨⟨by decide +kernel, by decide +kernel⟩, List.mem_of_getElem? (i := 519) (by decide +kernel), List.mem_of_getElem? (i := 638) (by decide +kernel), List.mem_of_getElem? (i := 639) (by decide +kernel)⟩
theorem lw_p20 : lw_okq (⟨"SpanStoreModel", "knownOf", "(I)I"⟩, 23) := ⟨⟨by decide +kernel, by decide +kernel⟩, List.mem_of_getElem? (i := 519) (by decide +kernel), List.mem_of_getElem? (i := 645) (by decide +kernel), List.mem_of_getElem? (i := 646) (by decide +kernel)⟩
theorem lw_p21 : lw_okq (⟨"SpanStoreModel", "rowsOf", "(I)I"⟩, 23) := ⟨⟨by decide +kernel, by decide +kernel⟩, List.mem_of_getElem? (i := 519) (by decide +kernel), List.mem_of_getElem? (i := 649) (by decide +kernel), List.mem_of_getElem? (i := 650) (by decide +kernel)⟩
theorem lw_p22 : lw_okq (⟨"SpanStoreModel", "unknownOf", "(I)I"⟩, 23) := ⟨⟨by decide +kernel, by decide +kernel⟩, List.mem_of_getElem? (i := 519) (by decide +kernel), List.mem_of_getElem? (i := 653) (by decide +kernel), List.mem_of_getElem? (i := 654) (by decide +kernel)⟩
theorem lw_p23 : lw_okq (⟨"SpanStoreModel", "readsAll", "(I)I"⟩, 23) := ⟨⟨by decide +kernel, by decide +kernel⟩, List.mem_of_getElem? (i := 519) (by decide +kernel), List.mem_of_getElem? (i := 665) (by decide +kernel), List.mem_of_getElem? (i := 666) (by decide +kernel)⟩
theorem lw_p24 : lw_okq (⟨"SpanStoreModel", "isRowAt", "(III)Z"⟩, 23) := ⟨⟨by decide +kernel, by decide +kernel⟩, List.mem_of_getElem? (i := 519) (by decide +kernel), List.mem_of_getElem? (i := 673) (by decide +kernel), List.mem_of_getElem? (i := 674) (by decide +kernel)⟩
theorem lw_p25 : lw_okq (⟨"SpanStoreModel", "lowOf", "(II)I"⟩, 23) := ⟨⟨by decide +kernel, by decide +kernel⟩, List.mem_of_getElem? (i := 519) (by decide +kernel), List.mem_of_getElem? (i := 686) (by decide +kernel), List.mem_of_getElem? (i := 687) (by decide +kernel)⟩
theorem lw_p26 : lw_okq (⟨"SpanStoreModel", "heavyOf", "(I)I"⟩, 23) := ⟨⟨by decide +kernel, by decide +kernel⟩, List.mem_of_getElem? (i := 519) (by decide +kernel), List.mem_of_getElem? (i := 690) (by decide +kernel), List.mem_of_getElem? (i := 691) (by decide +kernel)⟩
theorem lw_p27 : lw_okq (⟨"SpanStoreModel", "highOf", "(II)I"⟩, 23) := ⟨⟨by decide +kernel, by decide +kernel⟩, List.mem_of_getElem? (i := 519) (by decide +kernel), List.mem_of_getElem? (i := 694) (by decide +kernel), List.mem_of_getElem? (i := 695) (by decide +kernel)⟩
theorem lw_p28 : lw_okq (⟨"SpanStoreModel", "owesLeast", "(II)Z"⟩, 23) := ⟨⟨by decide +kernel, by decide +kernel⟩, List.mem_of_getElem? (i := 519) (by decide +kernel), List.mem_of_getElem? (i := 698) (by decide +kernel), List.mem_of_getElem? (i := 699) (by decide +kernel)⟩
theorem lw_p29 : lw_okq (⟨"SpanStoreModel", "isUnseen", "(II)Z"⟩, 23) := ⟨⟨by decide +kernel, by decide +kernel⟩, List.mem_of_getElem? (i := 519) (by decide +kernel), List.mem_of_getElem? (i := 702) (by decide +kernel), List.mem_of_getElem? (i := 703) (by decide +kernel)⟩
theorem lw_p30 : lw_okq (⟨"SpanStoreModel", "owesGreatest", "(II)Z"⟩, 23) := ⟨⟨by decide +kernel, by decide +kernel⟩, List.mem_of_getElem? (i := 519) (by decide +kernel), List.mem_of_getElem? (i := 706) (by decide +kernel), List.mem_of_getElem? (i := 707) (by decide +kernel)⟩
theorem lw_p31 : lw_okq (⟨"SpanStoreModel", "sumNow", "(III)J"⟩, 23) := ⟨⟨by decide +kernel, by decide +kernel⟩, List.mem_of_getElem? (i := 519) (by decide +kernel), List.mem_of_getElem? (i := 718) (by decide +kernel), List.mem_of_getElem? (i := 719) (by decide +kernel)⟩
def lw_privs_2 : List (MethodName × Nat) := [(⟨"SpanStoreModel", "lays", "(IIII)V"⟩, 23), (⟨"SpanStoreModel", "meets", "(I)I"⟩, 23), (⟨"SpanStoreModel", "seals", "(II)V"⟩, 23), (⟨"SpanStoreModel", "keeps", "(III)Z"⟩, 23), (⟨"SpanStoreModel", "knownOf", "(I)I"⟩, 23), (⟨"SpanStoreModel", "rowsOf", "(I)I"⟩, 23), (⟨"SpanStoreModel", "unknownOf", "(I)I"⟩, 23), (⟨"SpanStoreModel", "readsAll", "(I)I"⟩, 23), (⟨"SpanStoreModel", "isRowAt", "(III)Z"⟩, 23), (⟨"SpanStoreModel", "lowOf", "(II)I"⟩, 23), (⟨"SpanStoreModel", "heavyOf", "(I)I"⟩, 23), (⟨"SpanStoreModel", "highOf", "(II)I"⟩, 23), (⟨"SpanStoreModel", "owesLeast", "(II)Z"⟩, 23), (⟨"SpanStoreModel", "isUnseen", "(II)Z"⟩, 23), (⟨"SpanStoreModel", "owesGreatest", "(II)Z"⟩, 23), (⟨"SpanStoreModel", "sumNow", "(III)J"⟩, 23)]
theorem lw_r2 : ∀ q ∈ lw_privs_2, lw_okq q := List.forall_mem_cons.mpr ⟨lw_p16, List.forall_mem_cons.mpr ⟨lw_p17, List.forall_mem_cons.mpr ⟨lw_p18, List.forall_mem_cons.mpr ⟨lw_p19, List.forall_mem_cons.mpr ⟨lw_p20, List.forall_mem_cons.mpr ⟨lw_p21, List.forall_mem_cons.mpr ⟨lw_p22, List.forall_mem_cons.mpr ⟨lw_p23, List.forall_mem_cons.mpr ⟨lw_p24, List.forall_mem_cons.mpr ⟨lw_p25, List.forall_mem_cons.mpr ⟨lw_p26, List.forall_mem_cons.mpr ⟨lw_p27, List.forall_mem_cons.mpr ⟨lw_p28, List.forall_mem_cons.mpr ⟨lw_p29, List.forall_mem_cons.mpr ⟨lw_p30, List.forall_mem_cons.mpr ⟨lw_p31, fun _ h => absurd h List.not_mem_nil⟩⟩⟩⟩⟩⟩⟩⟩⟩⟩⟩⟩⟩⟩⟩⟩
theorem lw_p32 : lw_okq (⟨"SpanStoreModel", "sumOf", "(IIII)J"⟩, 23) := ⟨⟨by decide +kernel, by decide +kernel⟩, List.mem_of_getElem? (i := 519) (by decide +kernel), List.mem_of_getElem? (i := 722) (by decide +kernel), List.mem_of_getElem? (i := 723) (by decide +kernel)⟩
theorem lw_p33 : lw_okq (⟨"SpanStoreModel", "countOf", "(IIII)I"⟩, 23) := ⟨⟨by decide +kernel, by decide +kernel⟩, List.mem_of_getElem? (i := 519) (by decide +kernel), List.mem_of_getElem? (i := 730) (by decide +kernel), List.mem_of_getElem? (i := 731) (by decide +kernel)⟩
theorem lw_p34 : lw_okq (⟨"SpanStoreModel", "pairs", "(II)I"⟩, 23) := ⟨⟨by decide +kernel, by decide +kernel⟩, List.mem_of_getElem? (i := 519) (by decide +kernel), List.mem_of_getElem? (i := 738) (by decide +kernel), List.mem_of_getElem? (i := 739) (by decide +kernel)⟩
theorem lw_p35 : lw_okq (⟨"SpanStoreModel", "isKnownAt", "(I)Z"⟩, 23) := ⟨⟨by decide +kernel, by decide +kernel⟩, List.mem_of_getElem? (i := 519) (by decide +kernel), List.mem_of_getElem? (i := 742) (by decide +kernel), List.mem_of_getElem? (i := 743) (by decide +kernel)⟩
theorem lw_p36 : lw_okq (⟨"SpanStoreModel", "hasKeyed", "(III)Z"⟩, 23) := ⟨⟨by decide +kernel, by decide +kernel⟩, List.mem_of_getElem? (i := 519) (by decide +kernel), List.mem_of_getElem? (i := 750) (by decide +kernel), List.mem_of_getElem? (i := 751) (by decide +kernel)⟩
theorem lw_p37 : lw_okq (⟨"SpanStoreModel", "nextOf", "(II)I"⟩, 23) := ⟨⟨by decide +kernel, by decide +kernel⟩, List.mem_of_getElem? (i := 519) (by decide +kernel), List.mem_of_getElem? (i := 758) (by decide +kernel), List.mem_of_getElem? (i := 759) (by decide +kernel)⟩
theorem lw_p38 : lw_okq (⟨"SpanStoreModel", "lacks", "(III)I"⟩, 23) := ⟨⟨by decide +kernel, by decide +kernel⟩, List.mem_of_getElem? (i := 519) (by decide +kernel), List.mem_of_getElem? (i := 779) (by decide +kernel), List.mem_of_getElem? (i := 780) (by decide +kernel)⟩
theorem lw_p39 : lw_okq (⟨"SpanStoreModel", "lay", "(III)V"⟩, 23) := ⟨⟨by decide +kernel, by decide +kernel⟩, List.mem_of_getElem? (i := 519) (by decide +kernel), List.mem_of_getElem? (i := 783) (by decide +kernel), List.mem_of_getElem? (i := 784) (by decide +kernel)⟩
def lw_privs_3 : List (MethodName × Nat) := [(⟨"SpanStoreModel", "sumOf", "(IIII)J"⟩, 23), (⟨"SpanStoreModel", "countOf", "(IIII)I"⟩, 23), (⟨"SpanStoreModel", "pairs", "(II)I"⟩, 23), (⟨"SpanStoreModel", "isKnownAt", "(I)Z"⟩, 23), (⟨"SpanStoreModel", "hasKeyed", "(III)Z"⟩, 23), (⟨"SpanStoreModel", "nextOf", "(II)I"⟩, 23), (⟨"SpanStoreModel", "lacks", "(III)I"⟩, 23), (⟨"SpanStoreModel", "lay", "(III)V"⟩, 23)]
theorem lw_r3 : ∀ q ∈ lw_privs_3, lw_okq q := List.forall_mem_cons.mpr ⟨lw_p32, List.forall_mem_cons.mpr ⟨lw_p33, List.forall_mem_cons.mpr ⟨lw_p34, List.forall_mem_cons.mpr ⟨lw_p35, List.forall_mem_cons.mpr ⟨lw_p36, List.forall_mem_cons.mpr ⟨lw_p37, List.forall_mem_cons.mpr ⟨lw_p38, List.forall_mem_cons.mpr ⟨lw_p39, fun _ h => absurd h List.not_mem_nil⟩⟩⟩⟩⟩⟩⟩⟩
def lw_privs : List (MethodName × Nat) := lw_privs_1 ++ (lw_privs_2 ++ (lw_privs_3))
def lw_tbl : List Cond := k2_sels lw_privs ++ tables_1
theorem lw_privs_ok : ∀ q ∈ lw_privs, lw_okq q := by
  show ∀ q ∈ lw_privs_1 ++ (lw_privs_2 ++ (lw_privs_3)), lw_okq q
  exact List.forall_mem_append.mpr ⟨lw_r1, List.forall_mem_append.mpr ⟨lw_r2, lw_r3⟩⟩

def nR0 : String := "SpanStore$Block"
def nT0 : u_T := fun k => match k with
  | 0 => ("SpanStore$Block", "keys", "[I", true)
  | 1 => ("SpanStore$Block", "groups", "[I", true)
  | 2 => ("SpanStore$Block", "values", "[I", true)
  | 3 => ("SpanStore$Block", "known", "[Z", true)
  | 4 => ("SpanStore$Block", "groupSizes", "[I", true)
  | 5 => ("SpanStore$Block", "size", "I", false)
  | 6 => ("SpanStore$Block", "knownCount", "I", false)
  | 7 => ("SpanStore$Block", "least", "I", false)
  | 8 => ("SpanStore$Block", "greatest", "I", false)
  | 9 => ("SpanStore$Block", "low", "I", false)
  | 10 => ("SpanStore$Block", "high", "I", false)
  | 11 => ("SpanStore$Block", "leastKept", "Z", false)
  | 12 => ("SpanStore$Block", "greatestKept", "Z", false)
  | _ => ("SpanStore$Block", "changedUnseen", "Z", false)
def nY0 : Nat → FieldType := fun k => match k with
  | 0 => .array .int
  | 1 => .array .int
  | 2 => .array .int
  | 3 => .array .boolean
  | 4 => .array .int
  | 5 => .int
  | 6 => .int
  | 7 => .int
  | 8 => .int
  | 9 => .int
  | 10 => .int
  | 11 => .boolean
  | 12 => .boolean
  | _ => .boolean
theorem nm0 : ∀ a, a < 14 → ∀ b, b < 14 → a ≠ b → (nT0 a).2.1 ≠ (nT0 b).2.1 := by decide +kernel
theorem nY0_ok : ∀ k, k < 14 → parseFieldDescriptor (nT0 k).2.2.1 = some (nY0 k) := by decide +kernel
def nR1 : String := "SpanStore$Keeper"
def nT1 : u_T := fun k => match k with
  | 0 => ("SpanStore$Keeper", "kind", "I", false)
  | 1 => ("SpanStore$Keeper", "a", "I", false)
  | _ => ("SpanStore$Keeper", "b", "I", false)
def nY1 : Nat → FieldType := fun k => match k with
  | 0 => .int
  | 1 => .int
  | _ => .int
theorem nm1 : ∀ a, a < 3 → ∀ b, b < 3 → a ≠ b → (nT1 a).2.1 ≠ (nT1 b).2.1 := by decide +kernel
theorem nY1_ok : ∀ k, k < 3 → parseFieldDescriptor (nT1 k).2.2.1 = some (nY1 k) := by decide +kernel
def nR2 : String := "SpanStore$Sheet"
def nT2 : u_T := fun k => match k with
  | 0 => ("SpanStore$Sheet", "items", "[I", true)
  | 1 => ("SpanStore$Sheet", "form", "I", false)
  | 2 => ("SpanStore$Sheet", "size", "I", false)
  | _ => ("SpanStore$Sheet", "lost", "Z", false)
def nY2 : Nat → FieldType := fun k => match k with
  | 0 => .array .int
  | 1 => .int
  | 2 => .int
  | _ => .boolean
theorem nm2 : ∀ a, a < 4 → ∀ b, b < 4 → a ≠ b → (nT2 a).2.1 ≠ (nT2 b).2.1 := by decide +kernel
theorem nY2_ok : ∀ k, k < 4 → parseFieldDescriptor (nT2 k).2.2.1 = some (nY2 k) := by decide +kernel
def nR3 : String := "SpanStore$Table"
def nT3 : u_T := fun k => match k with
  | 0 => ("SpanStore$Table", "blocks", "[LSpanStore$Block;", true)
  | 1 => ("SpanStore$Table", "keepers", "[LSpanStore$Keeper;", true)
  | 2 => ("SpanStore$Table", "keeperCount", "I", false)
  | _ => ("SpanStore$Table", "sealed", "Z", false)
def nY3 : Nat → FieldType := fun k => match k with
  | 0 => .array (.object "SpanStore$Block")
  | 1 => .array (.object "SpanStore$Keeper")
  | 2 => .int
  | _ => .boolean
theorem nm3 : ∀ a, a < 4 → ∀ b, b < 4 → a ≠ b → (nT3 a).2.1 ≠ (nT3 b).2.1 := by decide +kernel
theorem nY3_ok : ∀ k, k < 4 → parseFieldDescriptor (nT3 k).2.2.1 = some (nY3 k) := by decide +kernel
def nR4 : String := "SpanStore"
def nT4 : u_T := fun k => match k with
  | 0 => ("SpanStore", "tables", "[LSpanStore$Table;", true)
  | 1 => ("SpanStore", "sheets", "[LSpanStore$Sheet;", true)
  | 2 => ("SpanStore", "keyCounts", "[I", true)
  | 3 => ("SpanStore", "reads", "I", false)
  | _ => ("SpanStore", "finding", "I", false)
def nY4 : Nat → FieldType := fun k => match k with
  | 0 => .array (.object "SpanStore$Table")
  | 1 => .array (.object "SpanStore$Sheet")
  | 2 => .array .int
  | 3 => .int
  | _ => .int
theorem nm4 : ∀ a, a < 5 → ∀ b, b < 5 → a ≠ b → (nT4 a).2.1 ≠ (nT4 b).2.1 := by decide +kernel
theorem nY4_ok : ∀ k, k < 5 → parseFieldDescriptor (nT4 k).2.2.1 = some (nY4 k) := by decide +kernel
def nR5 : String := "SpanStoreModel"
def nT5 : u_T := fun k => match k with
  | 0 => ("SpanStoreModel", "many", "[I", true)
  | 1 => ("SpanStoreModel", "keys", "[I", true)
  | 2 => ("SpanStoreModel", "groups", "[I", true)
  | 3 => ("SpanStoreModel", "values", "[I", true)
  | 4 => ("SpanStoreModel", "isKnown", "[Z", true)
  | 5 => ("SpanStoreModel", "wasKnown", "[Z", true)
  | 6 => ("SpanStoreModel", "valueThen", "[I", true)
  | 7 => ("SpanStoreModel", "leasts", "[I", true)
  | 8 => ("SpanStoreModel", "greatests", "[I", true)
  | 9 => ("SpanStoreModel", "groupMany", "[I", true)
  | 10 => ("SpanStoreModel", "isTouched", "[Z", true)
  | 11 => ("SpanStoreModel", "isSealed", "[Z", true)
  | 12 => ("SpanStoreModel", "keepers", "[I", true)
  | 13 => ("SpanStoreModel", "keeperKind", "[I", true)
  | 14 => ("SpanStoreModel", "keeperA", "[I", true)
  | 15 => ("SpanStoreModel", "keeperB", "[I", true)
  | 16 => ("SpanStoreModel", "reads", "I", false)
  | 17 => ("SpanStoreModel", "isThere", "[Z", true)
  | 18 => ("SpanStoreModel", "forms", "[I", true)
  | 19 => ("SpanStoreModel", "sizes", "[I", true)
  | 20 => ("SpanStoreModel", "items", "[I", true)
  | 21 => ("SpanStoreModel", "moved", "[I", true)
  | _ => ("SpanStoreModel", "finding", "I", false)
def nY5 : Nat → FieldType := fun k => match k with
  | 0 => .array .int
  | 1 => .array .int
  | 2 => .array .int
  | 3 => .array .int
  | 4 => .array .boolean
  | 5 => .array .boolean
  | 6 => .array .int
  | 7 => .array .int
  | 8 => .array .int
  | 9 => .array .int
  | 10 => .array .boolean
  | 11 => .array .boolean
  | 12 => .array .int
  | 13 => .array .int
  | 14 => .array .int
  | 15 => .array .int
  | 16 => .int
  | 17 => .array .boolean
  | 18 => .array .int
  | 19 => .array .int
  | 20 => .array .int
  | 21 => .array .int
  | _ => .int
theorem nm5 : ∀ a, a < 23 → ∀ b, b < 23 → a ≠ b → (nT5 a).2.1 ≠ (nT5 b).2.1 := by decide +kernel
theorem nY5_ok : ∀ k, k < 23 → parseFieldDescriptor (nT5 k).2.2.1 = some (nY5 k) := by decide +kernel
def fR (ci : Nat) : String := match ci with
  | 0 => nR0
  | 1 => nR1
  | 2 => nR2
  | 3 => nR3
  | 4 => nR4
  | _ => nR5
def fT (ci : Nat) : u_T := match ci with
  | 0 => nT0
  | 1 => nT1
  | 2 => nT2
  | 3 => nT3
  | 4 => nT4
  | _ => nT5
def fN (ci : Nat) : Nat := match ci with
  | 0 => 14
  | 1 => 3
  | 2 => 4
  | 3 => 4
  | 4 => 5
  | _ => 23
def fY (ci : Nat) : Nat → FieldType := match ci with
  | 0 => nY0
  | 1 => nY1
  | 2 => nY2
  | 3 => nY3
  | 4 => nY4
  | _ => nY5
abbrev clsL : List vw_C := [(fR 0, fT 0, fN 0), (fR 1, fT 1, fN 1), (fR 2, fT 2, fN 2), (fR 3, fT 3, fN 3), (fR 4, fT 4, fN 4), (fR 5, fT 5, fN 5)]
theorem clsL_at {ci : Nat} (h : ci < 6) : clsL[ci]? = some (fR ci, fT ci, fN ci) := by
  rcases (show ci = 0 ∨ ci = 1 ∨ ci = 2 ∨ ci = 3 ∨ ci = 4 ∨ ci = 5 by omega) with rfl | rfl | rfl | rfl | rfl | rfl <;> rfl
theorem fY_ok {ci : Nat} (h : ci < 6) : ∀ k, k < fN ci → parseFieldDescriptor (fT ci k).2.2.1 = some (fY ci k) := by
  rcases (show ci = 0 ∨ ci = 1 ∨ ci = 2 ∨ ci = 3 ∨ ci = 4 ∨ ci = 5 by omega) with rfl | rfl | rfl | rfl | rfl | rfl
  · exact nY0_ok
  · exact nY1_ok
  · exact nY2_ok
  · exact nY3_ok
  · exact nY4_ok
  · exact nY5_ok
theorem fm_ok {ci : Nat} (h : ci < 6) : ∀ a, a < fN ci → ∀ b, b < fN ci → a ≠ b → (fT ci a).2.1 ≠ (fT ci b).2.1 := by
  rcases (show ci = 0 ∨ ci = 1 ∨ ci = 2 ∨ ci = 3 ∨ ci = 4 ∨ ci = 5 by omega) with rfl | rfl | rfl | rfl | rfl | rfl
  · exact nm0
  · exact nm1
  · exact nm2
  · exact nm3
  · exact nm4
  · exact nm5
def tbG : List Cond := lw_tbl.filter goodWord
theorem wm {w : Cond} (i : Nat) (h : lw_tbl[i]? = some w) (g : goodWord w = true) : w ∈ tbG := List.mem_filter.mpr ⟨List.mem_of_getElem? h, g⟩
theorem tbG_good {c : Cond} (h : c ∈ tbG) : GoodIn tbG (c :: tbG) := fun w hw => by
  have hm : w ∈ tbG := (List.mem_cons.mp hw).elim (fun e => e ▸ h) id
  exact ⟨hm, good_of_word (List.mem_filter.mp hm).2⟩
theorem tbG_sub {args : Array Value} {s : State} (h : ∀ w ∈ lw_tbl, w.before args s = true) : ∀ w ∈ tbG, w.before args s = true := fun w hw => h w (List.mem_filter.mp hw).1
theorem inG0 : ∀ w ∈ u_ws (fR 0) (fT 0) (fN 0), w ∈ tbG := by
  intro w hw
  obtain ⟨k, hk, rfl⟩ := List.mem_map.mp hw
  rcases (show k = 0 ∨ k = 1 ∨ k = 2 ∨ k = 3 ∨ k = 4 ∨ k = 5 ∨ k = 6 ∨ k = 7 ∨ k = 8 ∨ k = 9 ∨ k = 10 ∨ k = 11 ∨ k = 12 ∨ k = 13 by have := List.mem_range.mp hk; simp only [fN] at this; omega) with rfl | rfl | rfl | rfl | rfl | rfl | rfl | rfl | rfl | rfl | rfl | rfl | rfl | rfl
  · exact wm 98 (by decide +kernel) (by decide +kernel)
  · exact wm 100 (by decide +kernel) (by decide +kernel)
  · exact wm 102 (by decide +kernel) (by decide +kernel)
  · exact wm 104 (by decide +kernel) (by decide +kernel)
  · exact wm 106 (by decide +kernel) (by decide +kernel)
  · exact wm 108 (by decide +kernel) (by decide +kernel)
  · exact wm 110 (by decide +kernel) (by decide +kernel)
  · exact wm 112 (by decide +kernel) (by decide +kernel)
  · exact wm 114 (by decide +kernel) (by decide +kernel)
  · exact wm 116 (by decide +kernel) (by decide +kernel)
  · exact wm 118 (by decide +kernel) (by decide +kernel)
  · exact wm 120 (by decide +kernel) (by decide +kernel)
  · exact wm 122 (by decide +kernel) (by decide +kernel)
  · exact wm 124 (by decide +kernel) (by decide +kernel)
theorem inG1 : ∀ w ∈ u_ws (fR 1) (fT 1) (fN 1), w ∈ tbG := by
  intro w hw
  obtain ⟨k, hk, rfl⟩ := List.mem_map.mp hw
  rcases (show k = 0 ∨ k = 1 ∨ k = 2 by have := List.mem_range.mp hk; simp only [fN] at this; omega) with rfl | rfl | rfl
  · exact wm 140 (by decide +kernel) (by decide +kernel)
  · exact wm 142 (by decide +kernel) (by decide +kernel)
  · exact wm 144 (by decide +kernel) (by decide +kernel)
theorem inG2 : ∀ w ∈ u_ws (fR 2) (fT 2) (fN 2), w ∈ tbG := by
  intro w hw
  obtain ⟨k, hk, rfl⟩ := List.mem_map.mp hw
  rcases (show k = 0 ∨ k = 1 ∨ k = 2 ∨ k = 3 by have := List.mem_range.mp hk; simp only [fN] at this; omega) with rfl | rfl | rfl | rfl
  · exact wm 177 (by decide +kernel) (by decide +kernel)
  · exact wm 179 (by decide +kernel) (by decide +kernel)
  · exact wm 181 (by decide +kernel) (by decide +kernel)
  · exact wm 183 (by decide +kernel) (by decide +kernel)
theorem inG3 : ∀ w ∈ u_ws (fR 3) (fT 3) (fN 3), w ∈ tbG := by
  intro w hw
  obtain ⟨k, hk, rfl⟩ := List.mem_map.mp hw
  rcases (show k = 0 ∨ k = 1 ∨ k = 2 ∨ k = 3 by have := List.mem_range.mp hk; simp only [fN] at this; omega) with rfl | rfl | rfl | rfl
  · exact wm 154 (by decide +kernel) (by decide +kernel)
  · exact wm 156 (by decide +kernel) (by decide +kernel)
  · exact wm 158 (by decide +kernel) (by decide +kernel)
  · exact wm 160 (by decide +kernel) (by decide +kernel)
theorem inG4 : ∀ w ∈ u_ws (fR 4) (fT 4) (fN 4), w ∈ tbG := by
  intro w hw
  obtain ⟨k, hk, rfl⟩ := List.mem_map.mp hw
  rcases (show k = 0 ∨ k = 1 ∨ k = 2 ∨ k = 3 ∨ k = 4 by have := List.mem_range.mp hk; simp only [fN] at this; omega) with rfl | rfl | rfl | rfl | rfl
  · exact wm 191 (by decide +kernel) (by decide +kernel)
  · exact wm 193 (by decide +kernel) (by decide +kernel)
  · exact wm 195 (by decide +kernel) (by decide +kernel)
  · exact wm 197 (by decide +kernel) (by decide +kernel)
  · exact wm 199 (by decide +kernel) (by decide +kernel)
theorem inG5 : ∀ w ∈ u_ws (fR 5) (fT 5) (fN 5), w ∈ tbG := by
  intro w hw
  obtain ⟨k, hk, rfl⟩ := List.mem_map.mp hw
  rcases (show k = 0 ∨ k = 1 ∨ k = 2 ∨ k = 3 ∨ k = 4 ∨ k = 5 ∨ k = 6 ∨ k = 7 ∨ k = 8 ∨ k = 9 ∨ k = 10 ∨ k = 11 ∨ k = 12 ∨ k = 13 ∨ k = 14 ∨ k = 15 ∨ k = 16 ∨ k = 17 ∨ k = 18 ∨ k = 19 ∨ k = 20 ∨ k = 21 ∨ k = 22 by have := List.mem_range.mp hk; simp only [fN] at this; omega) with rfl | rfl | rfl | rfl | rfl | rfl | rfl | rfl | rfl | rfl | rfl | rfl | rfl | rfl | rfl | rfl | rfl | rfl | rfl | rfl | rfl | rfl | rfl
  · exact wm 587 (by decide +kernel) (by decide +kernel)
  · exact wm 589 (by decide +kernel) (by decide +kernel)
  · exact wm 591 (by decide +kernel) (by decide +kernel)
  · exact wm 593 (by decide +kernel) (by decide +kernel)
  · exact wm 595 (by decide +kernel) (by decide +kernel)
  · exact wm 597 (by decide +kernel) (by decide +kernel)
  · exact wm 599 (by decide +kernel) (by decide +kernel)
  · exact wm 601 (by decide +kernel) (by decide +kernel)
  · exact wm 603 (by decide +kernel) (by decide +kernel)
  · exact wm 605 (by decide +kernel) (by decide +kernel)
  · exact wm 607 (by decide +kernel) (by decide +kernel)
  · exact wm 609 (by decide +kernel) (by decide +kernel)
  · exact wm 611 (by decide +kernel) (by decide +kernel)
  · exact wm 613 (by decide +kernel) (by decide +kernel)
  · exact wm 615 (by decide +kernel) (by decide +kernel)
  · exact wm 617 (by decide +kernel) (by decide +kernel)
  · exact wm 619 (by decide +kernel) (by decide +kernel)
  · exact wm 621 (by decide +kernel) (by decide +kernel)
  · exact wm 623 (by decide +kernel) (by decide +kernel)
  · exact wm 625 (by decide +kernel) (by decide +kernel)
  · exact wm 627 (by decide +kernel) (by decide +kernel)
  · exact wm 629 (by decide +kernel) (by decide +kernel)
  · exact wm 631 (by decide +kernel) (by decide +kernel)
theorem inG {ci : Nat} (h : ci < 6) : ∀ w ∈ u_ws (fR ci) (fT ci) (fN ci), w ∈ tbG := by
  rcases (show ci = 0 ∨ ci = 1 ∨ ci = 2 ∨ ci = 3 ∨ ci = 4 ∨ ci = 5 by omega) with rfl | rfl | rfl | rfl | rfl | rfl
  · exact inG0
  · exact inG1
  · exact inG2
  · exact inG3
  · exact inG4
  · exact inG5
def MX (y : MethodName) (cc : ByteArray) (nL : Nat) (rt : Option FieldType) (n : Nat) : Prop := Cond.code y cc nL rt ∈ tbG ∧ Cond.initialized y.cls ∈ tbG ∧ (y.cls ≠ "java/lang/invoke/MethodHandle" ∧ y.cls ≠ "java/lang/invoke/VarHandle" ∧ (parseMethodDescriptor y.desc).map (fun d => d.parameters.length) = some n)
def MV (y : MethodName) (ci : Nat) : Prop := Cond.instanceMethod y ∈ tbG ∧ Cond.selects (fR ci) y y ∈ tbG ∧ y.cls = fR ci ∧ ci < 6
def MS (y : MethodName) : Prop := Cond.static y ∈ tbG
def MI (y : MethodName) : Prop := Cond.instanceMethod y ∈ tbG ∧ y.name = "<init>"
def y_B_init : MethodName := ⟨"SpanStore$Block", "<init>", "()V"⟩
abbrev c_B_init : ByteArray := prog_2_method_1_code
theorem mx_B_init : MX y_B_init c_B_init 1 none 0 := ⟨wm 74 (by decide +kernel) (by decide +kernel), wm 43 (by decide +kernel) (by decide +kernel), (by decide +kernel)⟩
theorem mi_B_init : MI y_B_init := ⟨wm 73 (by decide +kernel) (by decide +kernel), rfl⟩
def y_B_hasRow : MethodName := ⟨"SpanStore$Block", "hasRow", "(I)Z"⟩
abbrev c_B_hasRow : ByteArray := prog_2_method_2_code
theorem mx_B_hasRow : MX y_B_hasRow c_B_hasRow 2 (some .boolean) 1 := ⟨wm 283 (by decide +kernel) (by decide +kernel), wm 43 (by decide +kernel) (by decide +kernel), (by decide +kernel)⟩
theorem mv_B_hasRow : MV y_B_hasRow 0 := ⟨wm 281 (by decide +kernel) (by decide +kernel), wm 282 (by decide +kernel) (by decide +kernel), rfl, by decide⟩
def y_B_addRow : MethodName := ⟨"SpanStore$Block", "addRow", "(III)V"⟩
abbrev c_B_addRow : ByteArray := prog_2_method_3_code
theorem mx_B_addRow : MX y_B_addRow c_B_addRow 4 none 3 := ⟨wm 222 (by decide +kernel) (by decide +kernel), wm 43 (by decide +kernel) (by decide +kernel), (by decide +kernel)⟩
theorem mv_B_addRow : MV y_B_addRow 0 := ⟨wm 220 (by decide +kernel) (by decide +kernel), wm 221 (by decide +kernel) (by decide +kernel), rfl, by decide⟩
def y_B_empty : MethodName := ⟨"SpanStore$Block", "empty", "()V"⟩
abbrev c_B_empty : ByteArray := prog_2_method_4_code
theorem mx_B_empty : MX y_B_empty c_B_empty 1 none 0 := ⟨wm 330 (by decide +kernel) (by decide +kernel), wm 43 (by decide +kernel) (by decide +kernel), (by decide +kernel)⟩
theorem mv_B_empty : MV y_B_empty 0 := ⟨wm 328 (by decide +kernel) (by decide +kernel), wm 329 (by decide +kernel) (by decide +kernel), rfl, by decide⟩
def y_B_earlierOfItsGroup : MethodName := ⟨"SpanStore$Block", "earlierOfItsGroup", "(I)I"⟩
abbrev c_B_earlierOfItsGroup : ByteArray := prog_2_method_5_code
theorem mx_B_earlierOfItsGroup : MX y_B_earlierOfItsGroup c_B_earlierOfItsGroup 4 (some .int) 1 := ⟨wm 290 (by decide +kernel) (by decide +kernel), wm 43 (by decide +kernel) (by decide +kernel), (by decide +kernel)⟩
theorem mv_B_earlierOfItsGroup : MV y_B_earlierOfItsGroup 0 := ⟨wm 288 (by decide +kernel) (by decide +kernel), wm 289 (by decide +kernel) (by decide +kernel), rfl, by decide⟩
def y_B_know : MethodName := ⟨"SpanStore$Block", "know", "(I)V"⟩
abbrev c_B_know : ByteArray := prog_2_method_6_code
theorem mx_B_know : MX y_B_know c_B_know 2 none 1 := ⟨wm 297 (by decide +kernel) (by decide +kernel), wm 43 (by decide +kernel) (by decide +kernel), (by decide +kernel)⟩
theorem mv_B_know : MV y_B_know 0 := ⟨wm 295 (by decide +kernel) (by decide +kernel), wm 296 (by decide +kernel) (by decide +kernel), rfl, by decide⟩
def y_B_knowAll : MethodName := ⟨"SpanStore$Block", "knowAll", "()V"⟩
abbrev c_B_knowAll : ByteArray := prog_2_method_7_code
theorem mx_B_knowAll : MX y_B_knowAll c_B_knowAll 2 none 0 := ⟨wm 345 (by decide +kernel) (by decide +kernel), wm 43 (by decide +kernel) (by decide +kernel), (by decide +kernel)⟩
theorem mv_B_knowAll : MV y_B_knowAll 0 := ⟨wm 343 (by decide +kernel) (by decide +kernel), wm 344 (by decide +kernel) (by decide +kernel), rfl, by decide⟩
def y_B_changeRow : MethodName := ⟨"SpanStore$Block", "changeRow", "(II)V"⟩
abbrev c_B_changeRow : ByteArray := prog_2_method_8_code
theorem mx_B_changeRow : MX y_B_changeRow c_B_changeRow 3 none 2 := ⟨wm 355 (by decide +kernel) (by decide +kernel), wm 43 (by decide +kernel) (by decide +kernel), (by decide +kernel)⟩
theorem mv_B_changeRow : MV y_B_changeRow 0 := ⟨wm 353 (by decide +kernel) (by decide +kernel), wm 354 (by decide +kernel) (by decide +kernel), rfl, by decide⟩
def y_B_measure : MethodName := ⟨"SpanStore$Block", "measure", "(I)V"⟩
abbrev c_B_measure : ByteArray := prog_2_method_9_code
theorem mx_B_measure : MX y_B_measure c_B_measure 3 none 1 := ⟨wm 302 (by decide +kernel) (by decide +kernel), wm 43 (by decide +kernel) (by decide +kernel), (by decide +kernel)⟩
theorem mv_B_measure : MV y_B_measure 0 := ⟨wm 300 (by decide +kernel) (by decide +kernel), wm 301 (by decide +kernel) (by decide +kernel), rfl, by decide⟩
def y_B_fact : MethodName := ⟨"SpanStore$Block", "fact", "(I)I"⟩
abbrev c_B_fact : ByteArray := prog_2_method_10_code
theorem mx_B_fact : MX y_B_fact c_B_fact 2 (some .int) 1 := ⟨wm 371 (by decide +kernel) (by decide +kernel), wm 43 (by decide +kernel) (by decide +kernel), (by decide +kernel)⟩
theorem mv_B_fact : MV y_B_fact 0 := ⟨wm 369 (by decide +kernel) (by decide +kernel), wm 370 (by decide +kernel) (by decide +kernel), rfl, by decide⟩
def y_B_sumEnd : MethodName := ⟨"SpanStore$Block", "sumEnd", "(II)J"⟩
abbrev c_B_sumEnd : ByteArray := prog_2_method_11_code
theorem mx_B_sumEnd : MX y_B_sumEnd c_B_sumEnd 6 (some .long) 2 := ⟨wm 406 (by decide +kernel) (by decide +kernel), wm 43 (by decide +kernel) (by decide +kernel), (by decide +kernel)⟩
theorem mv_B_sumEnd : MV y_B_sumEnd 0 := ⟨wm 404 (by decide +kernel) (by decide +kernel), wm 405 (by decide +kernel) (by decide +kernel), rfl, by decide⟩
def y_B_apart : MethodName := ⟨"SpanStore$Block", "apart", "(I)J"⟩
abbrev c_B_apart : ByteArray := prog_2_method_12_code
theorem mx_B_apart : MX y_B_apart c_B_apart 2 (some .long) 1 := ⟨wm 464 (by decide +kernel) (by decide +kernel), wm 43 (by decide +kernel) (by decide +kernel), (by decide +kernel)⟩
theorem mv_B_apart : MV y_B_apart 0 := ⟨wm 462 (by decide +kernel) (by decide +kernel), wm 463 (by decide +kernel) (by decide +kernel), rfl, by decide⟩
def y_B_countEnd : MethodName := ⟨"SpanStore$Block", "countEnd", "(II)I"⟩
abbrev c_B_countEnd : ByteArray := prog_2_method_13_code
theorem mx_B_countEnd : MX y_B_countEnd c_B_countEnd 5 (some .int) 2 := ⟨wm 422 (by decide +kernel) (by decide +kernel), wm 43 (by decide +kernel) (by decide +kernel), (by decide +kernel)⟩
theorem mv_B_countEnd : MV y_B_countEnd 0 := ⟨wm 420 (by decide +kernel) (by decide +kernel), wm 421 (by decide +kernel) (by decide +kernel), rfl, by decide⟩
def y_B_addKnownKeys : MethodName := ⟨"SpanStore$Block", "addKnownKeys", "([I)V"⟩
abbrev c_B_addKnownKeys : ByteArray := prog_2_method_14_code
theorem mx_B_addKnownKeys : MX y_B_addKnownKeys c_B_addKnownKeys 4 none 1 := ⟨wm 439 (by decide +kernel) (by decide +kernel), wm 43 (by decide +kernel) (by decide +kernel), (by decide +kernel)⟩
theorem mv_B_addKnownKeys : MV y_B_addKnownKeys 0 := ⟨wm 437 (by decide +kernel) (by decide +kernel), wm 438 (by decide +kernel) (by decide +kernel), rfl, by decide⟩
def y_B_pairsWith : MethodName := ⟨"SpanStore$Block", "pairsWith", "([III)I"⟩
abbrev c_B_pairsWith : ByteArray := prog_2_method_15_code
theorem mx_B_pairsWith : MX y_B_pairsWith c_B_pairsWith 8 (some .int) 3 := ⟨wm 443 (by decide +kernel) (by decide +kernel), wm 43 (by decide +kernel) (by decide +kernel), (by decide +kernel)⟩
theorem mv_B_pairsWith : MV y_B_pairsWith 0 := ⟨wm 441 (by decide +kernel) (by decide +kernel), wm 442 (by decide +kernel) (by decide +kernel), rfl, by decide⟩
def y_B_writeKnown : MethodName := ⟨"SpanStore$Block", "writeKnown", "(LSpanStore$Sheet;LSpanStore$Sheet;LSpanStore$Sheet;I)I"⟩
abbrev c_B_writeKnown : ByteArray := prog_2_method_16_code
theorem mx_B_writeKnown : MX y_B_writeKnown c_B_writeKnown 8 (some .int) 4 := ⟨wm 530 (by decide +kernel) (by decide +kernel), wm 43 (by decide +kernel) (by decide +kernel), (by decide +kernel)⟩
theorem mv_B_writeKnown : MV y_B_writeKnown 0 := ⟨wm 528 (by decide +kernel) (by decide +kernel), wm 529 (by decide +kernel) (by decide +kernel), rfl, by decide⟩
def y_B_mixedInto : MethodName := ⟨"SpanStore$Block", "mixedInto", "(J)J"⟩
abbrev c_B_mixedInto : ByteArray := prog_2_method_17_code
theorem mx_B_mixedInto : MX y_B_mixedInto c_B_mixedInto 6 (some .long) 1 := ⟨wm 553 (by decide +kernel) (by decide +kernel), wm 43 (by decide +kernel) (by decide +kernel), (by decide +kernel)⟩
theorem mv_B_mixedInto : MV y_B_mixedInto 0 := ⟨wm 551 (by decide +kernel) (by decide +kernel), wm 552 (by decide +kernel) (by decide +kernel), rfl, by decide⟩
def y_B_isHalf : MethodName := ⟨"SpanStore$Block", "isHalf", "()Z"⟩
abbrev c_B_isHalf : ByteArray := prog_2_method_18_code
theorem mx_B_isHalf : MX y_B_isHalf c_B_isHalf 1 (some .boolean) 0 := ⟨wm 375 (by decide +kernel) (by decide +kernel), wm 43 (by decide +kernel) (by decide +kernel), (by decide +kernel)⟩
theorem mv_B_isHalf : MV y_B_isHalf 0 := ⟨wm 374 (by decide +kernel) (by decide +kernel), wm 8 (by decide +kernel) (by decide +kernel), rfl, by decide⟩
def y_B_owesLeast : MethodName := ⟨"SpanStore$Block", "owesLeast", "()Z"⟩
abbrev c_B_owesLeast : ByteArray := prog_2_method_19_code
theorem mx_B_owesLeast : MX y_B_owesLeast c_B_owesLeast 1 (some .boolean) 0 := ⟨wm 379 (by decide +kernel) (by decide +kernel), wm 43 (by decide +kernel) (by decide +kernel), (by decide +kernel)⟩
theorem mv_B_owesLeast : MV y_B_owesLeast 0 := ⟨wm 378 (by decide +kernel) (by decide +kernel), wm 9 (by decide +kernel) (by decide +kernel), rfl, by decide⟩
def y_B_owesGreatest : MethodName := ⟨"SpanStore$Block", "owesGreatest", "()Z"⟩
abbrev c_B_owesGreatest : ByteArray := prog_2_method_20_code
theorem mx_B_owesGreatest : MX y_B_owesGreatest c_B_owesGreatest 1 (some .boolean) 0 := ⟨wm 383 (by decide +kernel) (by decide +kernel), wm 43 (by decide +kernel) (by decide +kernel), (by decide +kernel)⟩
theorem mv_B_owesGreatest : MV y_B_owesGreatest 0 := ⟨wm 382 (by decide +kernel) (by decide +kernel), wm 10 (by decide +kernel) (by decide +kernel), rfl, by decide⟩
def y_B_isKnownValue : MethodName := ⟨"SpanStore$Block", "isKnownValue", "(I)Z"⟩
abbrev c_B_isKnownValue : ByteArray := prog_2_method_21_code
theorem mx_B_isKnownValue : MX y_B_isKnownValue c_B_isKnownValue 3 (some .boolean) 1 := ⟨wm 310 (by decide +kernel) (by decide +kernel), wm 43 (by decide +kernel) (by decide +kernel), (by decide +kernel)⟩
theorem mv_B_isKnownValue : MV y_B_isKnownValue 0 := ⟨wm 309 (by decide +kernel) (by decide +kernel), wm 6 (by decide +kernel) (by decide +kernel), rfl, by decide⟩
def y_B_groupSize : MethodName := ⟨"SpanStore$Block", "groupSize", "(I)I"⟩
abbrev c_B_groupSize : ByteArray := prog_2_method_22_code
theorem mx_B_groupSize : MX y_B_groupSize c_B_groupSize 2 (some .int) 1 := ⟨wm 387 (by decide +kernel) (by decide +kernel), wm 43 (by decide +kernel) (by decide +kernel), (by decide +kernel)⟩
theorem mv_B_groupSize : MV y_B_groupSize 0 := ⟨wm 386 (by decide +kernel) (by decide +kernel), wm 11 (by decide +kernel) (by decide +kernel), rfl, by decide⟩
def y_B_hiddenSumEnd : MethodName := ⟨"SpanStore$Block", "hiddenSumEnd", "(II)I"⟩
abbrev c_B_hiddenSumEnd : ByteArray := prog_2_method_23_code
theorem mx_B_hiddenSumEnd : MX y_B_hiddenSumEnd c_B_hiddenSumEnd 4 (some .int) 2 := ⟨wm 410 (by decide +kernel) (by decide +kernel), wm 43 (by decide +kernel) (by decide +kernel), (by decide +kernel)⟩
theorem mv_B_hiddenSumEnd : MV y_B_hiddenSumEnd 0 := ⟨wm 409 (by decide +kernel) (by decide +kernel), wm 12 (by decide +kernel) (by decide +kernel), rfl, by decide⟩
def y_B_hiddenCountEnd : MethodName := ⟨"SpanStore$Block", "hiddenCountEnd", "(II)I"⟩
abbrev c_B_hiddenCountEnd : ByteArray := prog_2_method_24_code
theorem mx_B_hiddenCountEnd : MX y_B_hiddenCountEnd c_B_hiddenCountEnd 4 (some .int) 2 := ⟨wm 426 (by decide +kernel) (by decide +kernel), wm 43 (by decide +kernel) (by decide +kernel), (by decide +kernel)⟩
theorem mv_B_hiddenCountEnd : MV y_B_hiddenCountEnd 0 := ⟨wm 425 (by decide +kernel) (by decide +kernel), wm 13 (by decide +kernel) (by decide +kernel), rfl, by decide⟩
def y_K_init : MethodName := ⟨"SpanStore$Keeper", "<init>", "()V"⟩
abbrev c_K_init : ByteArray := prog_3_method_1_code
theorem mx_K_init : MX y_K_init c_K_init 1 none 0 := ⟨wm 132 (by decide +kernel) (by decide +kernel), wm 44 (by decide +kernel) (by decide +kernel), (by decide +kernel)⟩
theorem mi_K_init : MI y_K_init := ⟨wm 131 (by decide +kernel) (by decide +kernel), rfl⟩
def y_K_become : MethodName := ⟨"SpanStore$Keeper", "become", "(III)V"⟩
abbrev c_K_become : ByteArray := prog_3_method_2_code
theorem mx_K_become : MX y_K_become c_K_become 4 none 3 := ⟨wm 252 (by decide +kernel) (by decide +kernel), wm 44 (by decide +kernel) (by decide +kernel), (by decide +kernel)⟩
theorem mv_K_become : MV y_K_become 1 := ⟨wm 250 (by decide +kernel) (by decide +kernel), wm 251 (by decide +kernel) (by decide +kernel), rfl, by decide⟩
def y_K_keeps : MethodName := ⟨"SpanStore$Keeper", "keeps", "(LSpanStore$Block;I)Z"⟩
abbrev c_K_keeps : ByteArray := prog_3_method_3_code
theorem mx_K_keeps : MX y_K_keeps c_K_keeps 3 (some .boolean) 2 := ⟨wm 279 (by decide +kernel) (by decide +kernel), wm 44 (by decide +kernel) (by decide +kernel), (by decide +kernel)⟩
theorem mv_K_keeps : MV y_K_keeps 1 := ⟨wm 277 (by decide +kernel) (by decide +kernel), wm 278 (by decide +kernel) (by decide +kernel), rfl, by decide⟩
def y_S_init : MethodName := ⟨"SpanStore$Sheet", "<init>", "()V"⟩
abbrev c_S_init : ByteArray := prog_4_method_1_code
theorem mx_S_init : MX y_S_init c_S_init 1 none 0 := ⟨wm 166 (by decide +kernel) (by decide +kernel), wm 45 (by decide +kernel) (by decide +kernel), (by decide +kernel)⟩
theorem mi_S_init : MI y_S_init := ⟨wm 165 (by decide +kernel) (by decide +kernel), rfl⟩
def y_S_renew : MethodName := ⟨"SpanStore$Sheet", "renew", "(II)V"⟩
abbrev c_S_renew : ByteArray := prog_4_method_2_code
theorem mx_S_renew : MX y_S_renew c_S_renew 3 none 2 := ⟨wm 486 (by decide +kernel) (by decide +kernel), wm 45 (by decide +kernel) (by decide +kernel), (by decide +kernel)⟩
theorem mv_S_renew : MV y_S_renew 2 := ⟨wm 484 (by decide +kernel) (by decide +kernel), wm 485 (by decide +kernel) (by decide +kernel), rfl, by decide⟩
def y_S_faultOf : MethodName := ⟨"SpanStore$Sheet", "faultOf", "(II)I"⟩
abbrev c_S_faultOf : ByteArray := prog_4_method_3_code
theorem mx_S_faultOf : MX y_S_faultOf c_S_faultOf 3 (some .int) 2 := ⟨wm 499 (by decide +kernel) (by decide +kernel), wm 45 (by decide +kernel) (by decide +kernel), (by decide +kernel)⟩
theorem mv_S_faultOf : MV y_S_faultOf 2 := ⟨wm 497 (by decide +kernel) (by decide +kernel), wm 498 (by decide +kernel) (by decide +kernel), rfl, by decide⟩
def y_S_hasStretch : MethodName := ⟨"SpanStore$Sheet", "hasStretch", "(II)Z"⟩
abbrev c_S_hasStretch : ByteArray := prog_4_method_4_code
theorem mx_S_hasStretch : MX y_S_hasStretch c_S_hasStretch 3 (some .boolean) 2 := ⟨wm 519 (by decide +kernel) (by decide +kernel), wm 45 (by decide +kernel) (by decide +kernel), (by decide +kernel)⟩
theorem mv_S_hasStretch : MV y_S_hasStretch 2 := ⟨wm 517 (by decide +kernel) (by decide +kernel), wm 518 (by decide +kernel) (by decide +kernel), rfl, by decide⟩
def y_S_store : MethodName := ⟨"SpanStore$Sheet", "store", "(II)V"⟩
abbrev c_S_store : ByteArray := prog_4_method_5_code
theorem mx_S_store : MX y_S_store c_S_store 3 none 2 := ⟨wm 503 (by decide +kernel) (by decide +kernel), wm 45 (by decide +kernel) (by decide +kernel), (by decide +kernel)⟩
theorem mv_S_store : MV y_S_store 2 := ⟨wm 501 (by decide +kernel) (by decide +kernel), wm 502 (by decide +kernel) (by decide +kernel), rfl, by decide⟩
def y_S_cut : MethodName := ⟨"SpanStore$Sheet", "cut", "(I)I"⟩
abbrev c_S_cut : ByteArray := prog_4_method_6_code
theorem mx_S_cut : MX y_S_cut c_S_cut 2 (some .int) 1 := ⟨wm 507 (by decide +kernel) (by decide +kernel), wm 45 (by decide +kernel) (by decide +kernel), (by decide +kernel)⟩
theorem mv_S_cut : MV y_S_cut 2 := ⟨wm 506 (by decide +kernel) (by decide +kernel), wm 15 (by decide +kernel) (by decide +kernel), rfl, by decide⟩
def y_T_init : MethodName := ⟨"SpanStore$Table", "<init>", "()V"⟩
abbrev c_T_init : ByteArray := prog_5_method_1_code
theorem mx_T_init : MX y_T_init c_T_init 2 none 0 := ⟨wm 65 (by decide +kernel) (by decide +kernel), wm 42 (by decide +kernel) (by decide +kernel), (by decide +kernel)⟩
theorem mi_T_init : MI y_T_init := ⟨wm 64 (by decide +kernel) (by decide +kernel), rfl⟩
def y_T_addKeeper : MethodName := ⟨"SpanStore$Table", "addKeeper", "(III)V"⟩
abbrev c_T_addKeeper : ByteArray := prog_5_method_2_code
theorem mx_T_addKeeper : MX y_T_addKeeper c_T_addKeeper 4 none 3 := ⟨wm 248 (by decide +kernel) (by decide +kernel), wm 42 (by decide +kernel) (by decide +kernel), (by decide +kernel)⟩
theorem mv_T_addKeeper : MV y_T_addKeeper 3 := ⟨wm 246 (by decide +kernel) (by decide +kernel), wm 247 (by decide +kernel) (by decide +kernel), rfl, by decide⟩
def y_T_close : MethodName := ⟨"SpanStore$Table", "close", "()V"⟩
abbrev c_T_close : ByteArray := prog_5_method_3_code
theorem mx_T_close : MX y_T_close c_T_close 3 none 0 := ⟨wm 260 (by decide +kernel) (by decide +kernel), wm 42 (by decide +kernel) (by decide +kernel), (by decide +kernel)⟩
theorem mv_T_close : MV y_T_close 3 := ⟨wm 258 (by decide +kernel) (by decide +kernel), wm 259 (by decide +kernel) (by decide +kernel), rfl, by decide⟩
def y_T_empty : MethodName := ⟨"SpanStore$Table", "empty", "()V"⟩
abbrev c_T_empty : ByteArray := prog_5_method_4_code
theorem mx_T_empty : MX y_T_empty c_T_empty 2 none 0 := ⟨wm 326 (by decide +kernel) (by decide +kernel), wm 42 (by decide +kernel) (by decide +kernel), (by decide +kernel)⟩
theorem mv_T_empty : MV y_T_empty 3 := ⟨wm 324 (by decide +kernel) (by decide +kernel), wm 325 (by decide +kernel) (by decide +kernel), rfl, by decide⟩
def y_T_rows : MethodName := ⟨"SpanStore$Table", "rows", "()I"⟩
abbrev c_T_rows : ByteArray := prog_5_method_5_code
theorem mx_T_rows : MX y_T_rows c_T_rows 3 (some .int) 0 := ⟨wm 322 (by decide +kernel) (by decide +kernel), wm 42 (by decide +kernel) (by decide +kernel), (by decide +kernel)⟩
theorem mv_T_rows : MV y_T_rows 3 := ⟨wm 320 (by decide +kernel) (by decide +kernel), wm 321 (by decide +kernel) (by decide +kernel), rfl, by decide⟩
def y_T_knownRows : MethodName := ⟨"SpanStore$Table", "knownRows", "()I"⟩
abbrev c_T_knownRows : ByteArray := prog_5_method_6_code
theorem mx_T_knownRows : MX y_T_knownRows c_T_knownRows 3 (some .int) 0 := ⟨wm 314 (by decide +kernel) (by decide +kernel), wm 42 (by decide +kernel) (by decide +kernel), (by decide +kernel)⟩
theorem mv_T_knownRows : MV y_T_knownRows 3 := ⟨wm 312 (by decide +kernel) (by decide +kernel), wm 313 (by decide +kernel) (by decide +kernel), rfl, by decide⟩
def y_T_hasKeyed : MethodName := ⟨"SpanStore$Table", "hasKeyed", "(II)Z"⟩
abbrev c_T_hasKeyed : ByteArray := prog_5_method_7_code
theorem mx_T_hasKeyed : MX y_T_hasKeyed c_T_hasKeyed 5 (some .boolean) 2 := ⟨wm 452 (by decide +kernel) (by decide +kernel), wm 42 (by decide +kernel) (by decide +kernel), (by decide +kernel)⟩
theorem mv_T_hasKeyed : MV y_T_hasKeyed 3 := ⟨wm 450 (by decide +kernel) (by decide +kernel), wm 451 (by decide +kernel) (by decide +kernel), rfl, by decide⟩
def y_T_sumEnd : MethodName := ⟨"SpanStore$Table", "sumEnd", "(II)J"⟩
abbrev c_T_sumEnd : ByteArray := prog_5_method_8_code
theorem mx_T_sumEnd : MX y_T_sumEnd c_T_sumEnd 6 (some .long) 2 := ⟨wm 402 (by decide +kernel) (by decide +kernel), wm 42 (by decide +kernel) (by decide +kernel), (by decide +kernel)⟩
theorem mv_T_sumEnd : MV y_T_sumEnd 3 := ⟨wm 400 (by decide +kernel) (by decide +kernel), wm 401 (by decide +kernel) (by decide +kernel), rfl, by decide⟩
def y_T_apart : MethodName := ⟨"SpanStore$Table", "apart", "(I)J"⟩
abbrev c_T_apart : ByteArray := prog_5_method_9_code
theorem mx_T_apart : MX y_T_apart c_T_apart 2 (some .long) 1 := ⟨wm 474 (by decide +kernel) (by decide +kernel), wm 42 (by decide +kernel) (by decide +kernel), (by decide +kernel)⟩
theorem mv_T_apart : MV y_T_apart 3 := ⟨wm 472 (by decide +kernel) (by decide +kernel), wm 473 (by decide +kernel) (by decide +kernel), rfl, by decide⟩
def y_T_countEnd : MethodName := ⟨"SpanStore$Table", "countEnd", "(II)I"⟩
abbrev c_T_countEnd : ByteArray := prog_5_method_10_code
theorem mx_T_countEnd : MX y_T_countEnd c_T_countEnd 5 (some .int) 2 := ⟨wm 418 (by decide +kernel) (by decide +kernel), wm 42 (by decide +kernel) (by decide +kernel), (by decide +kernel)⟩
theorem mv_T_countEnd : MV y_T_countEnd 3 := ⟨wm 416 (by decide +kernel) (by decide +kernel), wm 417 (by decide +kernel) (by decide +kernel), rfl, by decide⟩
def y_T_widestBlock : MethodName := ⟨"SpanStore$Table", "widestBlock", "(I)I"⟩
abbrev c_T_widestBlock : ByteArray := prog_5_method_11_code
theorem mx_T_widestBlock : MX y_T_widestBlock c_T_widestBlock 8 (some .int) 1 := ⟨wm 460 (by decide +kernel) (by decide +kernel), wm 42 (by decide +kernel) (by decide +kernel), (by decide +kernel)⟩
theorem mv_T_widestBlock : MV y_T_widestBlock 3 := ⟨wm 458 (by decide +kernel) (by decide +kernel), wm 459 (by decide +kernel) (by decide +kernel), rfl, by decide⟩
def y_T_mixedInto : MethodName := ⟨"SpanStore$Table", "mixedInto", "(J)J"⟩
abbrev c_T_mixedInto : ByteArray := prog_5_method_12_code
theorem mx_T_mixedInto : MX y_T_mixedInto c_T_mixedInto 6 (some .long) 1 := ⟨wm 549 (by decide +kernel) (by decide +kernel), wm 42 (by decide +kernel) (by decide +kernel), (by decide +kernel)⟩
theorem mv_T_mixedInto : MV y_T_mixedInto 3 := ⟨wm 547 (by decide +kernel) (by decide +kernel), wm 548 (by decide +kernel) (by decide +kernel), rfl, by decide⟩
def y_T_topHiddenAmount : MethodName := ⟨"SpanStore$Table", "topHiddenAmount", "()I"⟩
abbrev c_T_topHiddenAmount : ByteArray := prog_5_method_13_code
theorem mx_T_topHiddenAmount : MX y_T_topHiddenAmount c_T_topHiddenAmount 3 (some .int) 0 := ⟨wm 264 (by decide +kernel) (by decide +kernel), wm 42 (by decide +kernel) (by decide +kernel), (by decide +kernel)⟩
theorem mv_T_topHiddenAmount : MV y_T_topHiddenAmount 3 := ⟨wm 263 (by decide +kernel) (by decide +kernel), wm 3 (by decide +kernel) (by decide +kernel), rfl, by decide⟩
def y_T_keepRows : MethodName := ⟨"SpanStore$Table", "keepRows", "(LSpanStore$Block;)V"⟩
abbrev c_T_keepRows : ByteArray := prog_5_method_14_code
theorem mx_T_keepRows : MX y_T_keepRows c_T_keepRows 3 none 1 := ⟨wm 271 (by decide +kernel) (by decide +kernel), wm 42 (by decide +kernel) (by decide +kernel), (by decide +kernel)⟩
theorem mv_T_keepRows : MV y_T_keepRows 3 := ⟨wm 270 (by decide +kernel) (by decide +kernel), wm 4 (by decide +kernel) (by decide +kernel), rfl, by decide⟩
def y_T_isKept : MethodName := ⟨"SpanStore$Table", "isKept", "(LSpanStore$Block;I)Z"⟩
abbrev c_T_isKept : ByteArray := prog_5_method_15_code
theorem mx_T_isKept : MX y_T_isKept c_T_isKept 4 (some .boolean) 2 := ⟨wm 275 (by decide +kernel) (by decide +kernel), wm 42 (by decide +kernel) (by decide +kernel), (by decide +kernel)⟩
theorem mv_T_isKept : MV y_T_isKept 3 := ⟨wm 274 (by decide +kernel) (by decide +kernel), wm 5 (by decide +kernel) (by decide +kernel), rfl, by decide⟩
def y_C_init : MethodName := ⟨"SpanStore", "<init>", "()V"⟩
abbrev c_C_init : ByteArray := prog_1_method_1_code
theorem mx_C_init : MX y_C_init c_C_init 2 none 0 := ⟨wm 54 (by decide +kernel) (by decide +kernel), wm 41 (by decide +kernel) (by decide +kernel), (by decide +kernel)⟩
theorem mi_C_init : MI y_C_init := ⟨wm 53 (by decide +kernel) (by decide +kernel), rfl⟩
def y_C_row : MethodName := ⟨"SpanStore", "row", "(IIIII)I"⟩
abbrev c_C_row : ByteArray := prog_1_method_2_code
theorem mx_C_row : MX y_C_row c_C_row 8 (some .int) 5 := ⟨wm 205 (by decide +kernel) (by decide +kernel), wm 41 (by decide +kernel) (by decide +kernel), (by decide +kernel)⟩
theorem mv_C_row : MV y_C_row 4 := ⟨wm 203 (by decide +kernel) (by decide +kernel), wm 204 (by decide +kernel) (by decide +kernel), rfl, by decide⟩
def y_C_load : MethodName := ⟨"SpanStore", "load", "(IIIIII)I"⟩
abbrev c_C_load : ByteArray := prog_1_method_3_code
theorem mx_C_load : MX y_C_load c_C_load 13 (some .int) 6 := ⟨wm 226 (by decide +kernel) (by decide +kernel), wm 41 (by decide +kernel) (by decide +kernel), (by decide +kernel)⟩
theorem mv_C_load : MV y_C_load 4 := ⟨wm 224 (by decide +kernel) (by decide +kernel), wm 225 (by decide +kernel) (by decide +kernel), rfl, by decide⟩
def y_C_keeper : MethodName := ⟨"SpanStore", "keeper", "(IIII)I"⟩
abbrev c_C_keeper : ByteArray := prog_1_method_4_code
theorem mx_C_keeper : MX y_C_keeper c_C_keeper 6 (some .int) 4 := ⟨wm 238 (by decide +kernel) (by decide +kernel), wm 41 (by decide +kernel) (by decide +kernel), (by decide +kernel)⟩
theorem mv_C_keeper : MV y_C_keeper 4 := ⟨wm 236 (by decide +kernel) (by decide +kernel), wm 237 (by decide +kernel) (by decide +kernel), rfl, by decide⟩
def y_C_seal : MethodName := ⟨"SpanStore", "seal", "(I)I"⟩
abbrev c_C_seal : ByteArray := prog_1_method_5_code
theorem mx_C_seal : MX y_C_seal c_C_seal 3 (some .int) 1 := ⟨wm 256 (by decide +kernel) (by decide +kernel), wm 41 (by decide +kernel) (by decide +kernel), (by decide +kernel)⟩
theorem mv_C_seal : MV y_C_seal 4 := ⟨wm 254 (by decide +kernel) (by decide +kernel), wm 255 (by decide +kernel) (by decide +kernel), rfl, by decide⟩
def y_C_clear : MethodName := ⟨"SpanStore", "clear", "(I)I"⟩
abbrev c_C_clear : ByteArray := prog_1_method_6_code
theorem mx_C_clear : MX y_C_clear c_C_clear 4 (some .int) 1 := ⟨wm 318 (by decide +kernel) (by decide +kernel), wm 41 (by decide +kernel) (by decide +kernel), (by decide +kernel)⟩
theorem mv_C_clear : MV y_C_clear 4 := ⟨wm 316 (by decide +kernel) (by decide +kernel), wm 317 (by decide +kernel) (by decide +kernel), rfl, by decide⟩
def y_C_read : MethodName := ⟨"SpanStore", "read", "(II)I"⟩
abbrev c_C_read : ByteArray := prog_1_method_7_code
theorem mx_C_read : MX y_C_read c_C_read 5 (some .int) 2 := ⟨wm 337 (by decide +kernel) (by decide +kernel), wm 41 (by decide +kernel) (by decide +kernel), (by decide +kernel)⟩
theorem mv_C_read : MV y_C_read 4 := ⟨wm 335 (by decide +kernel) (by decide +kernel), wm 336 (by decide +kernel) (by decide +kernel), rfl, by decide⟩
def y_C_change : MethodName := ⟨"SpanStore", "change", "(IIII)I"⟩
abbrev c_C_change : ByteArray := prog_1_method_8_code
theorem mx_C_change : MX y_C_change c_C_change 7 (some .int) 4 := ⟨wm 350 (by decide +kernel) (by decide +kernel), wm 41 (by decide +kernel) (by decide +kernel), (by decide +kernel)⟩
theorem mv_C_change : MV y_C_change 4 := ⟨wm 348 (by decide +kernel) (by decide +kernel), wm 349 (by decide +kernel) (by decide +kernel), rfl, by decide⟩
def y_C_value : MethodName := ⟨"SpanStore", "value", "(III)I"⟩
abbrev c_C_value : ByteArray := prog_1_method_9_code
theorem mx_C_value : MX y_C_value c_C_value 6 (some .int) 3 := ⟨wm 359 (by decide +kernel) (by decide +kernel), wm 41 (by decide +kernel) (by decide +kernel), (by decide +kernel)⟩
theorem mv_C_value : MV y_C_value 4 := ⟨wm 357 (by decide +kernel) (by decide +kernel), wm 358 (by decide +kernel) (by decide +kernel), rfl, by decide⟩
def y_C_about : MethodName := ⟨"SpanStore", "about", "(III)I"⟩
abbrev c_C_about : ByteArray := prog_1_method_10_code
theorem mx_C_about : MX y_C_about c_C_about 6 (some .int) 3 := ⟨wm 364 (by decide +kernel) (by decide +kernel), wm 41 (by decide +kernel) (by decide +kernel), (by decide +kernel)⟩
theorem mv_C_about : MV y_C_about 4 := ⟨wm 362 (by decide +kernel) (by decide +kernel), wm 363 (by decide +kernel) (by decide +kernel), rfl, by decide⟩
def y_C_sum : MethodName := ⟨"SpanStore", "sum", "(III)J"⟩
abbrev c_C_sum : ByteArray := prog_1_method_11_code
theorem mx_C_sum : MX y_C_sum c_C_sum 5 (some .long) 3 := ⟨wm 391 (by decide +kernel) (by decide +kernel), wm 41 (by decide +kernel) (by decide +kernel), (by decide +kernel)⟩
theorem mv_C_sum : MV y_C_sum 4 := ⟨wm 389 (by decide +kernel) (by decide +kernel), wm 390 (by decide +kernel) (by decide +kernel), rfl, by decide⟩
def y_C_count : MethodName := ⟨"SpanStore", "count", "(III)I"⟩
abbrev c_C_count : ByteArray := prog_1_method_12_code
theorem mx_C_count : MX y_C_count c_C_count 5 (some .int) 3 := ⟨wm 414 (by decide +kernel) (by decide +kernel), wm 41 (by decide +kernel) (by decide +kernel), (by decide +kernel)⟩
theorem mv_C_count : MV y_C_count 4 := ⟨wm 412 (by decide +kernel) (by decide +kernel), wm 413 (by decide +kernel) (by decide +kernel), rfl, by decide⟩
def y_C_join : MethodName := ⟨"SpanStore", "join", "(I)I"⟩
abbrev c_C_join : ByteArray := prog_1_method_13_code
theorem mx_C_join : MX y_C_join c_C_join 7 (some .int) 1 := ⟨wm 430 (by decide +kernel) (by decide +kernel), wm 41 (by decide +kernel) (by decide +kernel), (by decide +kernel)⟩
theorem mv_C_join : MV y_C_join 4 := ⟨wm 428 (by decide +kernel) (by decide +kernel), wm 429 (by decide +kernel) (by decide +kernel), rfl, by decide⟩
def y_C_part : MethodName := ⟨"SpanStore", "part", "(II)I"⟩
abbrev c_C_part : ByteArray := prog_1_method_14_code
theorem mx_C_part : MX y_C_part c_C_part 5 (some .int) 2 := ⟨wm 448 (by decide +kernel) (by decide +kernel), wm 41 (by decide +kernel) (by decide +kernel), (by decide +kernel)⟩
theorem mv_C_part : MV y_C_part 4 := ⟨wm 446 (by decide +kernel) (by decide +kernel), wm 447 (by decide +kernel) (by decide +kernel), rfl, by decide⟩
def y_C_next : MethodName := ⟨"SpanStore", "next", "(II)I"⟩
abbrev c_C_next : ByteArray := prog_1_method_15_code
theorem mx_C_next : MX y_C_next c_C_next 4 (some .int) 2 := ⟨wm 456 (by decide +kernel) (by decide +kernel), wm 41 (by decide +kernel) (by decide +kernel), (by decide +kernel)⟩
theorem mv_C_next : MV y_C_next 4 := ⟨wm 454 (by decide +kernel) (by decide +kernel), wm 455 (by decide +kernel) (by decide +kernel), rfl, by decide⟩
def y_C_refine : MethodName := ⟨"SpanStore", "refine", "(III)I"⟩
abbrev c_C_refine : ByteArray := prog_1_method_16_code
theorem mx_C_refine : MX y_C_refine c_C_refine 7 (some .int) 3 := ⟨wm 469 (by decide +kernel) (by decide +kernel), wm 41 (by decide +kernel) (by decide +kernel), (by decide +kernel)⟩
theorem mv_C_refine : MV y_C_refine 4 := ⟨wm 467 (by decide +kernel) (by decide +kernel), wm 468 (by decide +kernel) (by decide +kernel), rfl, by decide⟩
def y_C_sheet : MethodName := ⟨"SpanStore", "sheet", "(III)I"⟩
abbrev c_C_sheet : ByteArray := prog_1_method_17_code
theorem mx_C_sheet : MX y_C_sheet c_C_sheet 5 (some .int) 3 := ⟨wm 479 (by decide +kernel) (by decide +kernel), wm 41 (by decide +kernel) (by decide +kernel), (by decide +kernel)⟩
theorem mv_C_sheet : MV y_C_sheet 4 := ⟨wm 477 (by decide +kernel) (by decide +kernel), wm 478 (by decide +kernel) (by decide +kernel), rfl, by decide⟩
def y_C_lose : MethodName := ⟨"SpanStore", "lose", "(I)I"⟩
abbrev c_C_lose : ByteArray := prog_1_method_18_code
theorem mx_C_lose : MX y_C_lose c_C_lose 3 (some .int) 1 := ⟨wm 491 (by decide +kernel) (by decide +kernel), wm 41 (by decide +kernel) (by decide +kernel), (by decide +kernel)⟩
theorem mv_C_lose : MV y_C_lose 4 := ⟨wm 489 (by decide +kernel) (by decide +kernel), wm 490 (by decide +kernel) (by decide +kernel), rfl, by decide⟩
def y_C_put : MethodName := ⟨"SpanStore", "put", "(IIII)I"⟩
abbrev c_C_put : ByteArray := prog_1_method_19_code
theorem mx_C_put : MX y_C_put c_C_put 7 (some .int) 4 := ⟨wm 495 (by decide +kernel) (by decide +kernel), wm 41 (by decide +kernel) (by decide +kernel), (by decide +kernel)⟩
theorem mv_C_put : MV y_C_put 4 := ⟨wm 493 (by decide +kernel) (by decide +kernel), wm 494 (by decide +kernel) (by decide +kernel), rfl, by decide⟩
def y_C_get : MethodName := ⟨"SpanStore", "get", "(III)I"⟩
abbrev c_C_get : ByteArray := prog_1_method_20_code
theorem mx_C_get : MX y_C_get c_C_get 6 (some .int) 3 := ⟨wm 511 (by decide +kernel) (by decide +kernel), wm 41 (by decide +kernel) (by decide +kernel), (by decide +kernel)⟩
theorem mv_C_get : MV y_C_get 4 := ⟨wm 509 (by decide +kernel) (by decide +kernel), wm 510 (by decide +kernel) (by decide +kernel), rfl, by decide⟩
def y_C_copy : MethodName := ⟨"SpanStore", "copy", "(IIIII)I"⟩
abbrev c_C_copy : ByteArray := prog_1_method_21_code
theorem mx_C_copy : MX y_C_copy c_C_copy 8 (some .int) 5 := ⟨wm 515 (by decide +kernel) (by decide +kernel), wm 41 (by decide +kernel) (by decide +kernel), (by decide +kernel)⟩
theorem mv_C_copy : MV y_C_copy 4 := ⟨wm 513 (by decide +kernel) (by decide +kernel), wm 514 (by decide +kernel) (by decide +kernel), rfl, by decide⟩
def y_C_write : MethodName := ⟨"SpanStore", "write", "(IIII)I"⟩
abbrev c_C_write : ByteArray := prog_1_method_22_code
theorem mx_C_write : MX y_C_write c_C_write 11 (some .int) 4 := ⟨wm 526 (by decide +kernel) (by decide +kernel), wm 41 (by decide +kernel) (by decide +kernel), (by decide +kernel)⟩
theorem mv_C_write : MV y_C_write 4 := ⟨wm 524 (by decide +kernel) (by decide +kernel), wm 525 (by decide +kernel) (by decide +kernel), rfl, by decide⟩
def y_C_told : MethodName := ⟨"SpanStore", "told", "(I)I"⟩
abbrev c_C_told : ByteArray := prog_1_method_23_code
theorem mx_C_told : MX y_C_told c_C_told 2 (some .int) 1 := ⟨wm 535 (by decide +kernel) (by decide +kernel), wm 41 (by decide +kernel) (by decide +kernel), (by decide +kernel)⟩
theorem mv_C_told : MV y_C_told 4 := ⟨wm 533 (by decide +kernel) (by decide +kernel), wm 534 (by decide +kernel) (by decide +kernel), rfl, by decide⟩
def y_C_digest : MethodName := ⟨"SpanStore", "digest", "()J"⟩
abbrev c_C_digest : ByteArray := prog_1_method_24_code
theorem mx_C_digest : MX y_C_digest c_C_digest 4 (some .long) 0 := ⟨wm 539 (by decide +kernel) (by decide +kernel), wm 41 (by decide +kernel) (by decide +kernel), (by decide +kernel)⟩
theorem mv_C_digest : MV y_C_digest 4 := ⟨wm 537 (by decide +kernel) (by decide +kernel), wm 538 (by decide +kernel) (by decide +kernel), rfl, by decide⟩
def y_C_tableAt : MethodName := ⟨"SpanStore", "tableAt", "(I)LSpanStore$Table;"⟩
abbrev c_C_tableAt : ByteArray := prog_1_method_25_code
theorem mx_C_tableAt : MX y_C_tableAt c_C_tableAt 2 (some (.object "SpanStore$Table")) 1 := ⟨wm 209 (by decide +kernel) (by decide +kernel), wm 41 (by decide +kernel) (by decide +kernel), (by decide +kernel)⟩
theorem mv_C_tableAt : MV y_C_tableAt 4 := ⟨wm 208 (by decide +kernel) (by decide +kernel), wm 0 (by decide +kernel) (by decide +kernel), rfl, by decide⟩
def y_C_blockAt : MethodName := ⟨"SpanStore", "blockAt", "(LSpanStore$Table;I)LSpanStore$Block;"⟩
abbrev c_C_blockAt : ByteArray := prog_1_method_26_code
theorem mx_C_blockAt : MX y_C_blockAt c_C_blockAt 2 (some (.object "SpanStore$Block")) 2 := ⟨wm 212 (by decide +kernel) (by decide +kernel), wm 41 (by decide +kernel) (by decide +kernel), (by decide +kernel)⟩
theorem ms_C_blockAt : MS y_C_blockAt := wm 211 (by decide +kernel) (by decide +kernel)
def y_C_sheetAt : MethodName := ⟨"SpanStore", "sheetAt", "(I)LSpanStore$Sheet;"⟩
abbrev c_C_sheetAt : ByteArray := prog_1_method_27_code
theorem mx_C_sheetAt : MX y_C_sheetAt c_C_sheetAt 2 (some (.object "SpanStore$Sheet")) 1 := ⟨wm 230 (by decide +kernel) (by decide +kernel), wm 41 (by decide +kernel) (by decide +kernel), (by decide +kernel)⟩
theorem mv_C_sheetAt : MV y_C_sheetAt 4 := ⟨wm 229 (by decide +kernel) (by decide +kernel), wm 1 (by decide +kernel) (by decide +kernel), rfl, by decide⟩
def y_C_found : MethodName := ⟨"SpanStore", "found", "(I)I"⟩
abbrev c_C_found : ByteArray := prog_1_method_28_code
theorem mx_C_found : MX y_C_found c_C_found 2 (some .int) 1 := ⟨wm 234 (by decide +kernel) (by decide +kernel), wm 41 (by decide +kernel) (by decide +kernel), (by decide +kernel)⟩
theorem mv_C_found : MV y_C_found 4 := ⟨wm 233 (by decide +kernel) (by decide +kernel), wm 2 (by decide +kernel) (by decide +kernel), rfl, by decide⟩
def y_C_readBlock : MethodName := ⟨"SpanStore", "readBlock", "(LSpanStore$Block;)I"⟩
abbrev c_C_readBlock : ByteArray := prog_1_method_29_code
theorem mx_C_readBlock : MX y_C_readBlock c_C_readBlock 3 (some .int) 1 := ⟨wm 341 (by decide +kernel) (by decide +kernel), wm 41 (by decide +kernel) (by decide +kernel), (by decide +kernel)⟩
theorem mv_C_readBlock : MV y_C_readBlock 4 := ⟨wm 340 (by decide +kernel) (by decide +kernel), wm 7 (by decide +kernel) (by decide +kernel), rfl, by decide⟩
def y_C_knownPairs : MethodName := ⟨"SpanStore", "knownPairs", "(LSpanStore$Table;LSpanStore$Table;II)I"⟩
abbrev c_C_knownPairs : ByteArray := prog_1_method_30_code
theorem mx_C_knownPairs : MX y_C_knownPairs c_C_knownPairs 7 (some .int) 4 := ⟨wm 434 (by decide +kernel) (by decide +kernel), wm 41 (by decide +kernel) (by decide +kernel), (by decide +kernel)⟩
theorem mv_C_knownPairs : MV y_C_knownPairs 4 := ⟨wm 433 (by decide +kernel) (by decide +kernel), wm 14 (by decide +kernel) (by decide +kernel), rfl, by decide⟩
def y_C_mixed : MethodName := ⟨"SpanStore", "mixed", "(JJ)J"⟩
abbrev c_C_mixed : ByteArray := prog_1_method_31_code
theorem mx_C_mixed : MX y_C_mixed c_C_mixed 4 (some .long) 2 := ⟨wm 544 (by decide +kernel) (by decide +kernel), wm 41 (by decide +kernel) (by decide +kernel), (by decide +kernel)⟩
theorem ms_C_mixed : MS y_C_mixed := wm 543 (by decide +kernel) (by decide +kernel)
def y_C_isValue : MethodName := ⟨"SpanStore", "isValue", "(I)Z"⟩
abbrev c_C_isValue : ByteArray := prog_1_method_32_code
theorem mx_C_isValue : MX y_C_isValue c_C_isValue 1 (some .boolean) 1 := ⟨wm 218 (by decide +kernel) (by decide +kernel), wm 41 (by decide +kernel) (by decide +kernel), (by decide +kernel)⟩
theorem ms_C_isValue : MS y_C_isValue := wm 217 (by decide +kernel) (by decide +kernel)
def y_C_isRow : MethodName := ⟨"SpanStore", "isRow", "(III)Z"⟩
abbrev c_C_isRow : ByteArray := prog_1_method_33_code
theorem mx_C_isRow : MX y_C_isRow c_C_isRow 3 (some .boolean) 3 := ⟨wm 215 (by decide +kernel) (by decide +kernel), wm 41 (by decide +kernel) (by decide +kernel), (by decide +kernel)⟩
theorem ms_C_isRow : MS y_C_isRow := wm 214 (by decide +kernel) (by decide +kernel)
def y_C_isKeeper : MethodName := ⟨"SpanStore", "isKeeper", "(III)Z"⟩
abbrev c_C_isKeeper : ByteArray := prog_1_method_34_code
theorem mx_C_isKeeper : MX y_C_isKeeper c_C_isKeeper 3 (some .boolean) 3 := ⟨wm 241 (by decide +kernel) (by decide +kernel), wm 41 (by decide +kernel) (by decide +kernel), (by decide +kernel)⟩
theorem ms_C_isKeeper : MS y_C_isKeeper := wm 240 (by decide +kernel) (by decide +kernel)
def y_C_isModulus : MethodName := ⟨"SpanStore", "isModulus", "(II)Z"⟩
abbrev c_C_isModulus : ByteArray := prog_1_method_35_code
theorem mx_C_isModulus : MX y_C_isModulus c_C_isModulus 2 (some .boolean) 2 := ⟨wm 244 (by decide +kernel) (by decide +kernel), wm 41 (by decide +kernel) (by decide +kernel), (by decide +kernel)⟩
theorem ms_C_isModulus : MS y_C_isModulus := wm 243 (by decide +kernel) (by decide +kernel)
def y_C_isCongruent : MethodName := ⟨"SpanStore", "isCongruent", "(III)Z"⟩
abbrev c_C_isCongruent : ByteArray := prog_1_method_36_code
theorem mx_C_isCongruent : MX y_C_isCongruent c_C_isCongruent 3 (some .boolean) 3 := ⟨wm 286 (by decide +kernel) (by decide +kernel), wm 41 (by decide +kernel) (by decide +kernel), (by decide +kernel)⟩
theorem ms_C_isCongruent : MS y_C_isCongruent := wm 285 (by decide +kernel) (by decide +kernel)
def y_C_isFact : MethodName := ⟨"SpanStore", "isFact", "(I)Z"⟩
abbrev c_C_isFact : ByteArray := prog_1_method_37_code
theorem mx_C_isFact : MX y_C_isFact c_C_isFact 2 (some .boolean) 1 := ⟨wm 367 (by decide +kernel) (by decide +kernel), wm 41 (by decide +kernel) (by decide +kernel), (by decide +kernel)⟩
theorem ms_C_isFact : MS y_C_isFact := wm 366 (by decide +kernel) (by decide +kernel)
def y_C_isGroupOrAll : MethodName := ⟨"SpanStore", "isGroupOrAll", "(I)Z"⟩
abbrev c_C_isGroupOrAll : ByteArray := prog_1_method_38_code
theorem mx_C_isGroupOrAll : MX y_C_isGroupOrAll c_C_isGroupOrAll 1 (some .boolean) 1 := ⟨wm 394 (by decide +kernel) (by decide +kernel), wm 41 (by decide +kernel) (by decide +kernel), (by decide +kernel)⟩
theorem ms_C_isGroupOrAll : MS y_C_isGroupOrAll := wm 393 (by decide +kernel) (by decide +kernel)
def y_C_isEnd : MethodName := ⟨"SpanStore", "isEnd", "(I)Z"⟩
abbrev c_C_isEnd : ByteArray := prog_1_method_39_code
theorem mx_C_isEnd : MX y_C_isEnd c_C_isEnd 1 (some .boolean) 1 := ⟨wm 397 (by decide +kernel) (by decide +kernel), wm 41 (by decide +kernel) (by decide +kernel), (by decide +kernel)⟩
theorem ms_C_isEnd : MS y_C_isEnd := wm 396 (by decide +kernel) (by decide +kernel)
def y_C_isForm : MethodName := ⟨"SpanStore", "isForm", "(I)Z"⟩
abbrev c_C_isForm : ByteArray := prog_1_method_40_code
theorem mx_C_isForm : MX y_C_isForm c_C_isForm 1 (some .boolean) 1 := ⟨wm 482 (by decide +kernel) (by decide +kernel), wm 41 (by decide +kernel) (by decide +kernel), (by decide +kernel)⟩
theorem ms_C_isForm : MS y_C_isForm := wm 481 (by decide +kernel) (by decide +kernel)
def y_M_init : MethodName := ⟨"SpanStoreModel", "<init>", "()V"⟩
abbrev c_M_init : ByteArray := prog_7_method_1_code
theorem mx_M_init : MX y_M_init c_M_init 1 none 0 := ⟨wm 562 (by decide +kernel) (by decide +kernel), wm 46 (by decide +kernel) (by decide +kernel), (by decide +kernel)⟩
theorem mi_M_init : MI y_M_init := ⟨wm 561 (by decide +kernel) (by decide +kernel), rfl⟩
def y_M_in : MethodName := ⟨"SpanStoreModel", "in", "(III)Z"⟩
abbrev c_M_in : ByteArray := prog_7_method_3_code
theorem mx_M_in : MX y_M_in c_M_in 3 (some .boolean) 3 := ⟨wm 646 (by decide +kernel) (by decide +kernel), wm 46 (by decide +kernel) (by decide +kernel), (by decide +kernel)⟩
theorem ms_M_in : MS y_M_in := wm 645 (by decide +kernel) (by decide +kernel)
def y_M_isTable : MethodName := ⟨"SpanStoreModel", "isTable", "(I)Z"⟩
abbrev c_M_isTable : ByteArray := prog_7_method_4_code
theorem mx_M_isTable : MX y_M_isTable c_M_isTable 1 (some .boolean) 1 := ⟨wm 643 (by decide +kernel) (by decide +kernel), wm 46 (by decide +kernel) (by decide +kernel), (by decide +kernel)⟩
theorem ms_M_isTable : MS y_M_isTable := wm 642 (by decide +kernel) (by decide +kernel)
def y_M_isBlock : MethodName := ⟨"SpanStoreModel", "isBlock", "(II)Z"⟩
abbrev c_M_isBlock : ByteArray := prog_7_method_5_code
theorem mx_M_isBlock : MX y_M_isBlock c_M_isBlock 2 (some .boolean) 2 := ⟨wm 640 (by decide +kernel) (by decide +kernel), wm 46 (by decide +kernel) (by decide +kernel), (by decide +kernel)⟩
theorem ms_M_isBlock : MS y_M_isBlock := wm 639 (by decide +kernel) (by decide +kernel)
def y_M_isRow : MethodName := ⟨"SpanStoreModel", "isRow", "(III)Z"⟩
abbrev c_M_isRow : ByteArray := prog_7_method_6_code
theorem mx_M_isRow : MX y_M_isRow c_M_isRow 3 (some .boolean) 3 := ⟨wm 649 (by decide +kernel) (by decide +kernel), wm 46 (by decide +kernel) (by decide +kernel), (by decide +kernel)⟩
theorem ms_M_isRow : MS y_M_isRow := wm 648 (by decide +kernel) (by decide +kernel)
def y_M_lays : MethodName := ⟨"SpanStoreModel", "lays", "(IIII)V"⟩
abbrev c_M_lays : ByteArray := prog_7_method_7_code
theorem mx_M_lays : MX y_M_lays c_M_lays 6 none 4 := ⟨wm 653 (by decide +kernel) (by decide +kernel), wm 46 (by decide +kernel) (by decide +kernel), (by decide +kernel)⟩
theorem mv_M_lays : MV y_M_lays 5 := ⟨wm 652 (by decide +kernel) (by decide +kernel), wm 16 (by decide +kernel) (by decide +kernel), rfl, by decide⟩
def y_M_row : MethodName := ⟨"SpanStoreModel", "row", "(IIIII)I"⟩
abbrev c_M_row : ByteArray := prog_7_method_8_code
theorem mx_M_row : MX y_M_row c_M_row 7 (some .int) 5 := ⟨wm 637 (by decide +kernel) (by decide +kernel), wm 46 (by decide +kernel) (by decide +kernel), (by decide +kernel)⟩
theorem mv_M_row : MV y_M_row 5 := ⟨wm 635 (by decide +kernel) (by decide +kernel), wm 636 (by decide +kernel) (by decide +kernel), rfl, by decide⟩
def y_M_load : MethodName := ⟨"SpanStoreModel", "load", "(IIIIII)I"⟩
abbrev c_M_load : ByteArray := prog_7_method_9_code
theorem mx_M_load : MX y_M_load c_M_load 9 (some .int) 6 := ⟨wm 657 (by decide +kernel) (by decide +kernel), wm 46 (by decide +kernel) (by decide +kernel), (by decide +kernel)⟩
theorem mv_M_load : MV y_M_load 5 := ⟨wm 655 (by decide +kernel) (by decide +kernel), wm 656 (by decide +kernel) (by decide +kernel), rfl, by decide⟩
def y_M_keeper : MethodName := ⟨"SpanStoreModel", "keeper", "(IIII)I"⟩
abbrev c_M_keeper : ByteArray := prog_7_method_10_code
theorem mx_M_keeper : MX y_M_keeper c_M_keeper 7 (some .int) 4 := ⟨wm 668 (by decide +kernel) (by decide +kernel), wm 46 (by decide +kernel) (by decide +kernel), (by decide +kernel)⟩
theorem mv_M_keeper : MV y_M_keeper 5 := ⟨wm 666 (by decide +kernel) (by decide +kernel), wm 667 (by decide +kernel) (by decide +kernel), rfl, by decide⟩
def y_M_amount : MethodName := ⟨"SpanStoreModel", "amount", "(I)I"⟩
abbrev c_M_amount : ByteArray := prog_7_method_11_code
theorem mx_M_amount : MX y_M_amount c_M_amount 1 (some .int) 1 := ⟨wm 683 (by decide +kernel) (by decide +kernel), wm 46 (by decide +kernel) (by decide +kernel), (by decide +kernel)⟩
theorem ms_M_amount : MS y_M_amount := wm 682 (by decide +kernel) (by decide +kernel)
def y_M_keeps : MethodName := ⟨"SpanStoreModel", "keeps", "(III)Z"⟩
abbrev c_M_keeps : ByteArray := prog_7_method_12_code
theorem mx_M_keeps : MX y_M_keeps c_M_keeps 8 (some .boolean) 3 := ⟨wm 680 (by decide +kernel) (by decide +kernel), wm 46 (by decide +kernel) (by decide +kernel), (by decide +kernel)⟩
theorem mv_M_keeps : MV y_M_keeps 5 := ⟨wm 679 (by decide +kernel) (by decide +kernel), wm 19 (by decide +kernel) (by decide +kernel), rfl, by decide⟩
def y_M_seals : MethodName := ⟨"SpanStoreModel", "seals", "(II)V"⟩
abbrev c_M_seals : ByteArray := prog_7_method_13_code
theorem mx_M_seals : MX y_M_seals c_M_seals 7 none 2 := ⟨wm 676 (by decide +kernel) (by decide +kernel), wm 46 (by decide +kernel) (by decide +kernel), (by decide +kernel)⟩
theorem mv_M_seals : MV y_M_seals 5 := ⟨wm 675 (by decide +kernel) (by decide +kernel), wm 18 (by decide +kernel) (by decide +kernel), rfl, by decide⟩
def y_M_seal : MethodName := ⟨"SpanStoreModel", "seal", "(I)I"⟩
abbrev c_M_seal : ByteArray := prog_7_method_14_code
theorem mx_M_seal : MX y_M_seal c_M_seal 3 (some .int) 1 := ⟨wm 672 (by decide +kernel) (by decide +kernel), wm 46 (by decide +kernel) (by decide +kernel), (by decide +kernel)⟩
theorem mv_M_seal : MV y_M_seal 5 := ⟨wm 670 (by decide +kernel) (by decide +kernel), wm 671 (by decide +kernel) (by decide +kernel), rfl, by decide⟩
def y_M_unknownOf : MethodName := ⟨"SpanStoreModel", "unknownOf", "(I)I"⟩
abbrev c_M_unknownOf : ByteArray := prog_7_method_15_code
theorem mx_M_unknownOf : MX y_M_unknownOf c_M_unknownOf 4 (some .int) 1 := ⟨wm 695 (by decide +kernel) (by decide +kernel), wm 46 (by decide +kernel) (by decide +kernel), (by decide +kernel)⟩
theorem mv_M_unknownOf : MV y_M_unknownOf 5 := ⟨wm 694 (by decide +kernel) (by decide +kernel), wm 22 (by decide +kernel) (by decide +kernel), rfl, by decide⟩
def y_M_rowsOf : MethodName := ⟨"SpanStoreModel", "rowsOf", "(I)I"⟩
abbrev c_M_rowsOf : ByteArray := prog_7_method_16_code
theorem mx_M_rowsOf : MX y_M_rowsOf c_M_rowsOf 4 (some .int) 1 := ⟨wm 691 (by decide +kernel) (by decide +kernel), wm 46 (by decide +kernel) (by decide +kernel), (by decide +kernel)⟩
theorem mv_M_rowsOf : MV y_M_rowsOf 5 := ⟨wm 690 (by decide +kernel) (by decide +kernel), wm 21 (by decide +kernel) (by decide +kernel), rfl, by decide⟩
def y_M_knownOf : MethodName := ⟨"SpanStoreModel", "knownOf", "(I)I"⟩
abbrev c_M_knownOf : ByteArray := prog_7_method_17_code
theorem mx_M_knownOf : MX y_M_knownOf c_M_knownOf 4 (some .int) 1 := ⟨wm 687 (by decide +kernel) (by decide +kernel), wm 46 (by decide +kernel) (by decide +kernel), (by decide +kernel)⟩
theorem mv_M_knownOf : MV y_M_knownOf 5 := ⟨wm 686 (by decide +kernel) (by decide +kernel), wm 20 (by decide +kernel) (by decide +kernel), rfl, by decide⟩
def y_M_clear : MethodName := ⟨"SpanStoreModel", "clear", "(I)I"⟩
abbrev c_M_clear : ByteArray := prog_7_method_18_code
theorem mx_M_clear : MX y_M_clear c_M_clear 4 (some .int) 1 := ⟨wm 699 (by decide +kernel) (by decide +kernel), wm 46 (by decide +kernel) (by decide +kernel), (by decide +kernel)⟩
theorem mv_M_clear : MV y_M_clear 5 := ⟨wm 697 (by decide +kernel) (by decide +kernel), wm 698 (by decide +kernel) (by decide +kernel), rfl, by decide⟩
def y_M_readsAll : MethodName := ⟨"SpanStoreModel", "readsAll", "(I)I"⟩
abbrev c_M_readsAll : ByteArray := prog_7_method_19_code
theorem mx_M_readsAll : MX y_M_readsAll c_M_readsAll 4 (some .int) 1 := ⟨wm 707 (by decide +kernel) (by decide +kernel), wm 46 (by decide +kernel) (by decide +kernel), (by decide +kernel)⟩
theorem mv_M_readsAll : MV y_M_readsAll 5 := ⟨wm 706 (by decide +kernel) (by decide +kernel), wm 23 (by decide +kernel) (by decide +kernel), rfl, by decide⟩
def y_M_read : MethodName := ⟨"SpanStoreModel", "read", "(II)I"⟩
abbrev c_M_read : ByteArray := prog_7_method_20_code
theorem mx_M_read : MX y_M_read c_M_read 3 (some .int) 2 := ⟨wm 703 (by decide +kernel) (by decide +kernel), wm 46 (by decide +kernel) (by decide +kernel), (by decide +kernel)⟩
theorem mv_M_read : MV y_M_read 5 := ⟨wm 701 (by decide +kernel) (by decide +kernel), wm 702 (by decide +kernel) (by decide +kernel), rfl, by decide⟩
def y_M_isRowAt : MethodName := ⟨"SpanStoreModel", "isRowAt", "(III)Z"⟩
abbrev c_M_isRowAt : ByteArray := prog_7_method_21_code
theorem mx_M_isRowAt : MX y_M_isRowAt c_M_isRowAt 4 (some .boolean) 3 := ⟨wm 715 (by decide +kernel) (by decide +kernel), wm 46 (by decide +kernel) (by decide +kernel), (by decide +kernel)⟩
theorem mv_M_isRowAt : MV y_M_isRowAt 5 := ⟨wm 714 (by decide +kernel) (by decide +kernel), wm 24 (by decide +kernel) (by decide +kernel), rfl, by decide⟩
def y_M_change : MethodName := ⟨"SpanStoreModel", "change", "(IIII)I"⟩
abbrev c_M_change : ByteArray := prog_7_method_22_code
theorem mx_M_change : MX y_M_change c_M_change 7 (some .int) 4 := ⟨wm 711 (by decide +kernel) (by decide +kernel), wm 46 (by decide +kernel) (by decide +kernel), (by decide +kernel)⟩
theorem mv_M_change : MV y_M_change 5 := ⟨wm 709 (by decide +kernel) (by decide +kernel), wm 710 (by decide +kernel) (by decide +kernel), rfl, by decide⟩
def y_M_value : MethodName := ⟨"SpanStoreModel", "value", "(III)I"⟩
abbrev c_M_value : ByteArray := prog_7_method_23_code
theorem mx_M_value : MX y_M_value c_M_value 5 (some .int) 3 := ⟨wm 719 (by decide +kernel) (by decide +kernel), wm 46 (by decide +kernel) (by decide +kernel), (by decide +kernel)⟩
theorem mv_M_value : MV y_M_value 5 := ⟨wm 717 (by decide +kernel) (by decide +kernel), wm 718 (by decide +kernel) (by decide +kernel), rfl, by decide⟩
def y_M_heavyOf : MethodName := ⟨"SpanStoreModel", "heavyOf", "(I)I"⟩
abbrev c_M_heavyOf : ByteArray := prog_7_method_24_code
theorem mx_M_heavyOf : MX y_M_heavyOf c_M_heavyOf 4 (some .int) 1 := ⟨wm 732 (by decide +kernel) (by decide +kernel), wm 46 (by decide +kernel) (by decide +kernel), (by decide +kernel)⟩
theorem mv_M_heavyOf : MV y_M_heavyOf 5 := ⟨wm 731 (by decide +kernel) (by decide +kernel), wm 26 (by decide +kernel) (by decide +kernel), rfl, by decide⟩
def y_M_lowOf : MethodName := ⟨"SpanStoreModel", "lowOf", "(II)I"⟩
abbrev c_M_lowOf : ByteArray := prog_7_method_25_code
theorem mx_M_lowOf : MX y_M_lowOf c_M_lowOf 4 (some .int) 2 := ⟨wm 728 (by decide +kernel) (by decide +kernel), wm 46 (by decide +kernel) (by decide +kernel), (by decide +kernel)⟩
theorem mv_M_lowOf : MV y_M_lowOf 5 := ⟨wm 727 (by decide +kernel) (by decide +kernel), wm 25 (by decide +kernel) (by decide +kernel), rfl, by decide⟩
def y_M_highOf : MethodName := ⟨"SpanStoreModel", "highOf", "(II)I"⟩
abbrev c_M_highOf : ByteArray := prog_7_method_26_code
theorem mx_M_highOf : MX y_M_highOf c_M_highOf 4 (some .int) 2 := ⟨wm 736 (by decide +kernel) (by decide +kernel), wm 46 (by decide +kernel) (by decide +kernel), (by decide +kernel)⟩
theorem mv_M_highOf : MV y_M_highOf 5 := ⟨wm 735 (by decide +kernel) (by decide +kernel), wm 27 (by decide +kernel) (by decide +kernel), rfl, by decide⟩
def y_M_isUnseen : MethodName := ⟨"SpanStoreModel", "isUnseen", "(II)Z"⟩
abbrev c_M_isUnseen : ByteArray := prog_7_method_27_code
theorem mx_M_isUnseen : MX y_M_isUnseen c_M_isUnseen 5 (some .boolean) 2 := ⟨wm 744 (by decide +kernel) (by decide +kernel), wm 46 (by decide +kernel) (by decide +kernel), (by decide +kernel)⟩
theorem mv_M_isUnseen : MV y_M_isUnseen 5 := ⟨wm 743 (by decide +kernel) (by decide +kernel), wm 29 (by decide +kernel) (by decide +kernel), rfl, by decide⟩
def y_M_owesLeast : MethodName := ⟨"SpanStoreModel", "owesLeast", "(II)Z"⟩
abbrev c_M_owesLeast : ByteArray := prog_7_method_28_code
theorem mx_M_owesLeast : MX y_M_owesLeast c_M_owesLeast 3 (some .boolean) 2 := ⟨wm 740 (by decide +kernel) (by decide +kernel), wm 46 (by decide +kernel) (by decide +kernel), (by decide +kernel)⟩
theorem mv_M_owesLeast : MV y_M_owesLeast 5 := ⟨wm 739 (by decide +kernel) (by decide +kernel), wm 28 (by decide +kernel) (by decide +kernel), rfl, by decide⟩
def y_M_owesGreatest : MethodName := ⟨"SpanStoreModel", "owesGreatest", "(II)Z"⟩
abbrev c_M_owesGreatest : ByteArray := prog_7_method_29_code
theorem mx_M_owesGreatest : MX y_M_owesGreatest c_M_owesGreatest 3 (some .boolean) 2 := ⟨wm 748 (by decide +kernel) (by decide +kernel), wm 46 (by decide +kernel) (by decide +kernel), (by decide +kernel)⟩
theorem mv_M_owesGreatest : MV y_M_owesGreatest 5 := ⟨wm 747 (by decide +kernel) (by decide +kernel), wm 30 (by decide +kernel) (by decide +kernel), rfl, by decide⟩
def y_M_about : MethodName := ⟨"SpanStoreModel", "about", "(III)I"⟩
abbrev c_M_about : ByteArray := prog_7_method_30_code
theorem mx_M_about : MX y_M_about c_M_about 6 (some .int) 3 := ⟨wm 724 (by decide +kernel) (by decide +kernel), wm 46 (by decide +kernel) (by decide +kernel), (by decide +kernel)⟩
theorem mv_M_about : MV y_M_about 5 := ⟨wm 722 (by decide +kernel) (by decide +kernel), wm 723 (by decide +kernel) (by decide +kernel), rfl, by decide⟩
def y_M_isGroup : MethodName := ⟨"SpanStoreModel", "isGroup", "(I)Z"⟩
abbrev c_M_isGroup : ByteArray := prog_7_method_31_code
theorem mx_M_isGroup : MX y_M_isGroup c_M_isGroup 1 (some .boolean) 1 := ⟨wm 755 (by decide +kernel) (by decide +kernel), wm 46 (by decide +kernel) (by decide +kernel), (by decide +kernel)⟩
theorem ms_M_isGroup : MS y_M_isGroup := wm 754 (by decide +kernel) (by decide +kernel)
def y_M_sumOf : MethodName := ⟨"SpanStoreModel", "sumOf", "(IIII)J"⟩
abbrev c_M_sumOf : ByteArray := prog_7_method_32_code
theorem mx_M_sumOf : MX y_M_sumOf c_M_sumOf 13 (some .long) 4 := ⟨wm 764 (by decide +kernel) (by decide +kernel), wm 46 (by decide +kernel) (by decide +kernel), (by decide +kernel)⟩
theorem mv_M_sumOf : MV y_M_sumOf 5 := ⟨wm 763 (by decide +kernel) (by decide +kernel), wm 32 (by decide +kernel) (by decide +kernel), rfl, by decide⟩
def y_M_sumNow : MethodName := ⟨"SpanStoreModel", "sumNow", "(III)J"⟩
abbrev c_M_sumNow : ByteArray := prog_7_method_33_code
theorem mx_M_sumNow : MX y_M_sumNow c_M_sumNow 7 (some .long) 3 := ⟨wm 760 (by decide +kernel) (by decide +kernel), wm 46 (by decide +kernel) (by decide +kernel), (by decide +kernel)⟩
theorem mv_M_sumNow : MV y_M_sumNow 5 := ⟨wm 759 (by decide +kernel) (by decide +kernel), wm 31 (by decide +kernel) (by decide +kernel), rfl, by decide⟩
def y_M_sum : MethodName := ⟨"SpanStoreModel", "sum", "(III)J"⟩
abbrev c_M_sum : ByteArray := prog_7_method_34_code
theorem mx_M_sum : MX y_M_sum c_M_sum 4 (some .long) 3 := ⟨wm 752 (by decide +kernel) (by decide +kernel), wm 46 (by decide +kernel) (by decide +kernel), (by decide +kernel)⟩
theorem mv_M_sum : MV y_M_sum 5 := ⟨wm 750 (by decide +kernel) (by decide +kernel), wm 751 (by decide +kernel) (by decide +kernel), rfl, by decide⟩
def y_M_countOf : MethodName := ⟨"SpanStoreModel", "countOf", "(IIII)I"⟩
abbrev c_M_countOf : ByteArray := prog_7_method_35_code
theorem mx_M_countOf : MX y_M_countOf c_M_countOf 7 (some .int) 4 := ⟨wm 772 (by decide +kernel) (by decide +kernel), wm 46 (by decide +kernel) (by decide +kernel), (by decide +kernel)⟩
theorem mv_M_countOf : MV y_M_countOf 5 := ⟨wm 771 (by decide +kernel) (by decide +kernel), wm 33 (by decide +kernel) (by decide +kernel), rfl, by decide⟩
def y_M_count : MethodName := ⟨"SpanStoreModel", "count", "(III)I"⟩
abbrev c_M_count : ByteArray := prog_7_method_36_code
theorem mx_M_count : MX y_M_count c_M_count 6 (some .int) 3 := ⟨wm 768 (by decide +kernel) (by decide +kernel), wm 46 (by decide +kernel) (by decide +kernel), (by decide +kernel)⟩
theorem mv_M_count : MV y_M_count 5 := ⟨wm 766 (by decide +kernel) (by decide +kernel), wm 767 (by decide +kernel) (by decide +kernel), rfl, by decide⟩
def y_M_pairs : MethodName := ⟨"SpanStoreModel", "pairs", "(II)I"⟩
abbrev c_M_pairs : ByteArray := prog_7_method_37_code
theorem mx_M_pairs : MX y_M_pairs c_M_pairs 6 (some .int) 2 := ⟨wm 780 (by decide +kernel) (by decide +kernel), wm 46 (by decide +kernel) (by decide +kernel), (by decide +kernel)⟩
theorem mv_M_pairs : MV y_M_pairs 5 := ⟨wm 779 (by decide +kernel) (by decide +kernel), wm 34 (by decide +kernel) (by decide +kernel), rfl, by decide⟩
def y_M_isKnownAt : MethodName := ⟨"SpanStoreModel", "isKnownAt", "(I)Z"⟩
abbrev c_M_isKnownAt : ByteArray := prog_7_method_38_code
theorem mx_M_isKnownAt : MX y_M_isKnownAt c_M_isKnownAt 2 (some .boolean) 1 := ⟨wm 784 (by decide +kernel) (by decide +kernel), wm 46 (by decide +kernel) (by decide +kernel), (by decide +kernel)⟩
theorem mv_M_isKnownAt : MV y_M_isKnownAt 5 := ⟨wm 783 (by decide +kernel) (by decide +kernel), wm 35 (by decide +kernel) (by decide +kernel), rfl, by decide⟩
def y_M_join : MethodName := ⟨"SpanStoreModel", "join", "(I)I"⟩
abbrev c_M_join : ByteArray := prog_7_method_39_code
theorem mx_M_join : MX y_M_join c_M_join 5 (some .int) 1 := ⟨wm 776 (by decide +kernel) (by decide +kernel), wm 46 (by decide +kernel) (by decide +kernel), (by decide +kernel)⟩
theorem mv_M_join : MV y_M_join 5 := ⟨wm 774 (by decide +kernel) (by decide +kernel), wm 775 (by decide +kernel) (by decide +kernel), rfl, by decide⟩
def y_M_hasKeyed : MethodName := ⟨"SpanStoreModel", "hasKeyed", "(III)Z"⟩
abbrev c_M_hasKeyed : ByteArray := prog_7_method_40_code
theorem mx_M_hasKeyed : MX y_M_hasKeyed c_M_hasKeyed 5 (some .boolean) 3 := ⟨wm 792 (by decide +kernel) (by decide +kernel), wm 46 (by decide +kernel) (by decide +kernel), (by decide +kernel)⟩
theorem mv_M_hasKeyed : MV y_M_hasKeyed 5 := ⟨wm 791 (by decide +kernel) (by decide +kernel), wm 36 (by decide +kernel) (by decide +kernel), rfl, by decide⟩
def y_M_part : MethodName := ⟨"SpanStoreModel", "part", "(II)I"⟩
abbrev c_M_part : ByteArray := prog_7_method_41_code
theorem mx_M_part : MX y_M_part c_M_part 3 (some .int) 2 := ⟨wm 788 (by decide +kernel) (by decide +kernel), wm 46 (by decide +kernel) (by decide +kernel), (by decide +kernel)⟩
theorem mv_M_part : MV y_M_part 5 := ⟨wm 786 (by decide +kernel) (by decide +kernel), wm 787 (by decide +kernel) (by decide +kernel), rfl, by decide⟩
def y_M_nextOf : MethodName := ⟨"SpanStoreModel", "nextOf", "(II)I"⟩
abbrev c_M_nextOf : ByteArray := prog_7_method_42_code
theorem mx_M_nextOf : MX y_M_nextOf c_M_nextOf 10 (some .int) 2 := ⟨wm 800 (by decide +kernel) (by decide +kernel), wm 46 (by decide +kernel) (by decide +kernel), (by decide +kernel)⟩
theorem mv_M_nextOf : MV y_M_nextOf 5 := ⟨wm 799 (by decide +kernel) (by decide +kernel), wm 37 (by decide +kernel) (by decide +kernel), rfl, by decide⟩
def y_M_next : MethodName := ⟨"SpanStoreModel", "next", "(II)I"⟩
abbrev c_M_next : ByteArray := prog_7_method_43_code
theorem mx_M_next : MX y_M_next c_M_next 3 (some .int) 2 := ⟨wm 796 (by decide +kernel) (by decide +kernel), wm 46 (by decide +kernel) (by decide +kernel), (by decide +kernel)⟩
theorem mv_M_next : MV y_M_next 5 := ⟨wm 794 (by decide +kernel) (by decide +kernel), wm 795 (by decide +kernel) (by decide +kernel), rfl, by decide⟩
def y_M_refine : MethodName := ⟨"SpanStoreModel", "refine", "(III)I"⟩
abbrev c_M_refine : ByteArray := prog_7_method_44_code
theorem mx_M_refine : MX y_M_refine c_M_refine 6 (some .int) 3 := ⟨wm 804 (by decide +kernel) (by decide +kernel), wm 46 (by decide +kernel) (by decide +kernel), (by decide +kernel)⟩
theorem mv_M_refine : MV y_M_refine 5 := ⟨wm 802 (by decide +kernel) (by decide +kernel), wm 803 (by decide +kernel) (by decide +kernel), rfl, by decide⟩
def y_M_meets : MethodName := ⟨"SpanStoreModel", "meets", "(I)I"⟩
abbrev c_M_meets : ByteArray := prog_7_method_45_code
theorem mx_M_meets : MX y_M_meets c_M_meets 2 (some .int) 1 := ⟨wm 664 (by decide +kernel) (by decide +kernel), wm 46 (by decide +kernel) (by decide +kernel), (by decide +kernel)⟩
theorem mv_M_meets : MV y_M_meets 5 := ⟨wm 663 (by decide +kernel) (by decide +kernel), wm 17 (by decide +kernel) (by decide +kernel), rfl, by decide⟩
def y_M_isSheet : MethodName := ⟨"SpanStoreModel", "isSheet", "(I)Z"⟩
abbrev c_M_isSheet : ByteArray := prog_7_method_46_code
theorem mx_M_isSheet : MX y_M_isSheet c_M_isSheet 1 (some .boolean) 1 := ⟨wm 660 (by decide +kernel) (by decide +kernel), wm 46 (by decide +kernel) (by decide +kernel), (by decide +kernel)⟩
theorem ms_M_isSheet : MS y_M_isSheet := wm 659 (by decide +kernel) (by decide +kernel)
def y_M_sheet : MethodName := ⟨"SpanStoreModel", "sheet", "(III)I"⟩
abbrev c_M_sheet : ByteArray := prog_7_method_47_code
theorem mx_M_sheet : MX y_M_sheet c_M_sheet 5 (some .int) 3 := ⟨wm 809 (by decide +kernel) (by decide +kernel), wm 46 (by decide +kernel) (by decide +kernel), (by decide +kernel)⟩
theorem mv_M_sheet : MV y_M_sheet 5 := ⟨wm 807 (by decide +kernel) (by decide +kernel), wm 808 (by decide +kernel) (by decide +kernel), rfl, by decide⟩
def y_M_lose : MethodName := ⟨"SpanStoreModel", "lose", "(I)I"⟩
abbrev c_M_lose : ByteArray := prog_7_method_48_code
theorem mx_M_lose : MX y_M_lose c_M_lose 2 (some .int) 1 := ⟨wm 813 (by decide +kernel) (by decide +kernel), wm 46 (by decide +kernel) (by decide +kernel), (by decide +kernel)⟩
theorem mv_M_lose : MV y_M_lose 5 := ⟨wm 811 (by decide +kernel) (by decide +kernel), wm 812 (by decide +kernel) (by decide +kernel), rfl, by decide⟩
def y_M_lacks : MethodName := ⟨"SpanStoreModel", "lacks", "(III)I"⟩
abbrev c_M_lacks : ByteArray := prog_7_method_49_code
theorem mx_M_lacks : MX y_M_lacks c_M_lacks 4 (some .int) 3 := ⟨wm 821 (by decide +kernel) (by decide +kernel), wm 46 (by decide +kernel) (by decide +kernel), (by decide +kernel)⟩
theorem mv_M_lacks : MV y_M_lacks 5 := ⟨wm 820 (by decide +kernel) (by decide +kernel), wm 38 (by decide +kernel) (by decide +kernel), rfl, by decide⟩
def y_M_lay : MethodName := ⟨"SpanStoreModel", "lay", "(III)V"⟩
abbrev c_M_lay : ByteArray := prog_7_method_50_code
theorem mx_M_lay : MX y_M_lay c_M_lay 4 none 3 := ⟨wm 825 (by decide +kernel) (by decide +kernel), wm 46 (by decide +kernel) (by decide +kernel), (by decide +kernel)⟩
theorem mv_M_lay : MV y_M_lay 5 := ⟨wm 824 (by decide +kernel) (by decide +kernel), wm 39 (by decide +kernel) (by decide +kernel), rfl, by decide⟩
def y_M_put : MethodName := ⟨"SpanStoreModel", "put", "(IIII)I"⟩
abbrev c_M_put : ByteArray := prog_7_method_51_code
theorem mx_M_put : MX y_M_put c_M_put 6 (some .int) 4 := ⟨wm 817 (by decide +kernel) (by decide +kernel), wm 46 (by decide +kernel) (by decide +kernel), (by decide +kernel)⟩
theorem mv_M_put : MV y_M_put 5 := ⟨wm 815 (by decide +kernel) (by decide +kernel), wm 816 (by decide +kernel) (by decide +kernel), rfl, by decide⟩
def y_M_get : MethodName := ⟨"SpanStoreModel", "get", "(III)I"⟩
abbrev c_M_get : ByteArray := prog_7_method_52_code
theorem mx_M_get : MX y_M_get c_M_get 5 (some .int) 3 := ⟨wm 829 (by decide +kernel) (by decide +kernel), wm 46 (by decide +kernel) (by decide +kernel), (by decide +kernel)⟩
theorem mv_M_get : MV y_M_get 5 := ⟨wm 827 (by decide +kernel) (by decide +kernel), wm 828 (by decide +kernel) (by decide +kernel), rfl, by decide⟩
def y_M_copy : MethodName := ⟨"SpanStoreModel", "copy", "(IIIII)I"⟩
abbrev c_M_copy : ByteArray := prog_7_method_53_code
theorem mx_M_copy : MX y_M_copy c_M_copy 7 (some .int) 5 := ⟨wm 833 (by decide +kernel) (by decide +kernel), wm 46 (by decide +kernel) (by decide +kernel), (by decide +kernel)⟩
theorem mv_M_copy : MV y_M_copy 5 := ⟨wm 831 (by decide +kernel) (by decide +kernel), wm 832 (by decide +kernel) (by decide +kernel), rfl, by decide⟩
def y_M_write : MethodName := ⟨"SpanStoreModel", "write", "(IIII)I"⟩
abbrev c_M_write : ByteArray := prog_7_method_54_code
theorem mx_M_write : MX y_M_write c_M_write 8 (some .int) 4 := ⟨wm 837 (by decide +kernel) (by decide +kernel), wm 46 (by decide +kernel) (by decide +kernel), (by decide +kernel)⟩
theorem mv_M_write : MV y_M_write 5 := ⟨wm 835 (by decide +kernel) (by decide +kernel), wm 836 (by decide +kernel) (by decide +kernel), rfl, by decide⟩
def y_M_told : MethodName := ⟨"SpanStoreModel", "told", "(I)I"⟩
abbrev c_M_told : ByteArray := prog_7_method_55_code
theorem mx_M_told : MX y_M_told c_M_told 2 (some .int) 1 := ⟨wm 841 (by decide +kernel) (by decide +kernel), wm 46 (by decide +kernel) (by decide +kernel), (by decide +kernel)⟩
theorem mv_M_told : MV y_M_told 5 := ⟨wm 839 (by decide +kernel) (by decide +kernel), wm 840 (by decide +kernel) (by decide +kernel), rfl, by decide⟩
def y_M_digest : MethodName := ⟨"SpanStoreModel", "digest", "()J"⟩
abbrev c_M_digest : ByteArray := prog_7_method_56_code
theorem mx_M_digest : MX y_M_digest c_M_digest 7 (some .long) 0 := ⟨wm 845 (by decide +kernel) (by decide +kernel), wm 46 (by decide +kernel) (by decide +kernel), (by decide +kernel)⟩
theorem mv_M_digest : MV y_M_digest 5 := ⟨wm 843 (by decide +kernel) (by decide +kernel), wm 844 (by decide +kernel) (by decide +kernel), rfl, by decide⟩
def y_A_abs : MethodName := ⟨"java/lang/Math", "abs", "(I)I"⟩
abbrev c_A_abs : ByteArray := prog_8_method_59_code
theorem mx_A_abs : MX y_A_abs c_A_abs 1 (some .int) 1 := ⟨wm 293 (by decide +kernel) (by decide +kernel), wm 47 (by decide +kernel) (by decide +kernel), (by decide +kernel)⟩
theorem ms_A_abs : MS y_A_abs := wm 292 (by decide +kernel) (by decide +kernel)
def y_A_max : MethodName := ⟨"java/lang/Math", "max", "(II)I"⟩
abbrev c_A_max : ByteArray := prog_8_method_65_code
theorem mx_A_max : MX y_A_max c_A_max 2 (some .int) 2 := ⟨wm 306 (by decide +kernel) (by decide +kernel), wm 47 (by decide +kernel) (by decide +kernel), (by decide +kernel)⟩
theorem ms_A_max : MS y_A_max := wm 305 (by decide +kernel) (by decide +kernel)
def y_A_min : MethodName := ⟨"java/lang/Math", "min", "(II)I"⟩
abbrev c_A_min : ByteArray := prog_8_method_69_code
theorem mx_A_min : MX y_A_min c_A_min 2 (some .int) 2 := ⟨wm 267 (by decide +kernel) (by decide +kernel), wm 47 (by decide +kernel) (by decide +kernel), (by decide +kernel)⟩
theorem ms_A_min : MS y_A_min := wm 266 (by decide +kernel) (by decide +kernel)
def y_J_fill : MethodName := ⟨"java/util/Arrays", "fill", "([II)V"⟩
abbrev c_J_fill : ByteArray := prog_10_method_103_code
theorem mx_J_fill : MX y_J_fill c_J_fill 4 none 2 := ⟨wm 333 (by decide +kernel) (by decide +kernel), wm 48 (by decide +kernel) (by decide +kernel), (by decide +kernel)⟩
theorem ms_J_fill : MS y_J_fill := wm 332 (by decide +kernel) (by decide +kernel)
def FL (own : String) (idx ci k : Nat) : Prop := Cond.fieldLink own idx (fT ci k).1 (fT ci k).2.1 (fT ci k).2.2.1 ∈ tbG ∧ k < fN ci ∧ ci < 6
theorem ac_ini : Cond.initialized "java/lang/System" ∈ tbG := wm 49 (by decide +kernel) (by decide +kernel)
theorem cl_L_7 : Cond.classLink "SpanStoreLaw" 7 (fR 4) ∈ tbG := wm 50 (by decide +kernel) (by decide +kernel)
theorem it_4 : Cond.instantiable (fR 4) (fN 4) ∈ tbG ∧ Cond.initialized (fR 4) ∈ tbG := ⟨wm 51 (by decide +kernel) (by decide +kernel), wm 41 (by decide +kernel) (by decide +kernel)⟩
theorem ml_L_9 : Cond.methodLink "SpanStoreLaw" 9 y_C_init ∈ tbG := wm 52 (by decide +kernel) (by decide +kernel)
theorem ml_C_1 : Cond.methodLink "SpanStore" 1 objectInit ∈ tbG := wm 55 (by decide +kernel) (by decide +kernel)
theorem oi_inst : Cond.instanceMethod objectInit ∈ tbG := wm 56 (by decide +kernel) (by decide +kernel)
theorem oi_code : Cond.code objectInit ⟨#[0xb1]⟩ 1 none ∈ tbG := wm 57 (by decide +kernel) (by decide +kernel)
theorem cl_C_9 : Cond.classLink "SpanStore" 9 (fR 3) ∈ tbG := wm 58 (by decide +kernel) (by decide +kernel)
theorem ao_3 : Cond.arrayOver (.object (fR 3)) ∈ lw_tbl := List.mem_of_getElem? (i := 59) (by decide +kernel)
theorem cl_C_15 : Cond.classLink "SpanStore" 15 (fR 2) ∈ tbG := wm 60 (by decide +kernel) (by decide +kernel)
theorem ao_2 : Cond.arrayOver (.object (fR 2)) ∈ lw_tbl := List.mem_of_getElem? (i := 61) (by decide +kernel)
theorem it_3 : Cond.instantiable (fR 3) (fN 3) ∈ tbG ∧ Cond.initialized (fR 3) ∈ tbG := ⟨wm 62 (by decide +kernel) (by decide +kernel), wm 42 (by decide +kernel) (by decide +kernel)⟩
theorem ml_C_25 : Cond.methodLink "SpanStore" 25 y_T_init ∈ tbG := wm 63 (by decide +kernel) (by decide +kernel)
theorem ml_T_3 : Cond.methodLink "SpanStore$Table" 3 objectInit ∈ tbG := wm 66 (by decide +kernel) (by decide +kernel)
theorem cl_T_9 : Cond.classLink "SpanStore$Table" 9 (fR 0) ∈ tbG := wm 67 (by decide +kernel) (by decide +kernel)
theorem ao_0 : Cond.arrayOver (.object (fR 0)) ∈ lw_tbl := List.mem_of_getElem? (i := 68) (by decide +kernel)
theorem cl_T_17 : Cond.classLink "SpanStore$Table" 17 (fR 1) ∈ tbG := wm 69 (by decide +kernel) (by decide +kernel)
theorem ao_1 : Cond.arrayOver (.object (fR 1)) ∈ lw_tbl := List.mem_of_getElem? (i := 70) (by decide +kernel)
theorem it_0 : Cond.instantiable (fR 0) (fN 0) ∈ tbG ∧ Cond.initialized (fR 0) ∈ tbG := ⟨wm 71 (by decide +kernel) (by decide +kernel), wm 43 (by decide +kernel) (by decide +kernel)⟩
theorem ml_T_23 : Cond.methodLink "SpanStore$Table" 23 y_B_init ∈ tbG := wm 72 (by decide +kernel) (by decide +kernel)
theorem ml_B_3 : Cond.methodLink "SpanStore$Block" 3 objectInit ∈ tbG := wm 75 (by decide +kernel) (by decide +kernel)
theorem fl_B_9 : FL "SpanStore$Block" 9 0 0 := ⟨wm 76 (by decide +kernel) (by decide +kernel), by decide, by decide⟩
theorem fl_K_35 : FL "SpanStore$Keeper" 35 0 0 := ⟨wm 77 (by decide +kernel) (by decide +kernel), by decide, by decide⟩
theorem fl_B_15 : FL "SpanStore$Block" 15 0 1 := ⟨wm 78 (by decide +kernel) (by decide +kernel), by decide, by decide⟩
theorem fl_B_18 : FL "SpanStore$Block" 18 0 2 := ⟨wm 79 (by decide +kernel) (by decide +kernel), by decide, by decide⟩
theorem fl_K_39 : FL "SpanStore$Keeper" 39 0 2 := ⟨wm 80 (by decide +kernel) (by decide +kernel), by decide, by decide⟩
theorem fl_C_112 : FL "SpanStore" 112 0 2 := ⟨wm 81 (by decide +kernel) (by decide +kernel), by decide, by decide⟩
theorem fl_B_21 : FL "SpanStore$Block" 21 0 3 := ⟨wm 82 (by decide +kernel) (by decide +kernel), by decide, by decide⟩
theorem fl_C_105 : FL "SpanStore" 105 0 3 := ⟨wm 83 (by decide +kernel) (by decide +kernel), by decide, by decide⟩
theorem fl_B_25 : FL "SpanStore$Block" 25 0 4 := ⟨wm 84 (by decide +kernel) (by decide +kernel), by decide, by decide⟩
theorem fl_B_28 : FL "SpanStore$Block" 28 0 5 := ⟨wm 85 (by decide +kernel) (by decide +kernel), by decide, by decide⟩
theorem fl_C_43 : FL "SpanStore" 43 0 5 := ⟨wm 86 (by decide +kernel) (by decide +kernel), by decide, by decide⟩
theorem fl_T_52 : FL "SpanStore$Table" 52 0 5 := ⟨wm 87 (by decide +kernel) (by decide +kernel), by decide, by decide⟩
theorem fl_B_32 : FL "SpanStore$Block" 32 0 6 := ⟨wm 88 (by decide +kernel) (by decide +kernel), by decide, by decide⟩
theorem fl_T_55 : FL "SpanStore$Table" 55 0 6 := ⟨wm 89 (by decide +kernel) (by decide +kernel), by decide, by decide⟩
theorem fl_C_209 : FL "SpanStore" 209 0 6 := ⟨wm 90 (by decide +kernel) (by decide +kernel), by decide, by decide⟩
theorem fl_B_53 : FL "SpanStore$Block" 53 0 7 := ⟨wm 91 (by decide +kernel) (by decide +kernel), by decide, by decide⟩
theorem fl_B_56 : FL "SpanStore$Block" 56 0 8 := ⟨wm 92 (by decide +kernel) (by decide +kernel), by decide, by decide⟩
theorem fl_B_68 : FL "SpanStore$Block" 68 0 9 := ⟨wm 93 (by decide +kernel) (by decide +kernel), by decide, by decide⟩
theorem fl_B_71 : FL "SpanStore$Block" 71 0 10 := ⟨wm 94 (by decide +kernel) (by decide +kernel), by decide, by decide⟩
theorem fl_B_77 : FL "SpanStore$Block" 77 0 11 := ⟨wm 95 (by decide +kernel) (by decide +kernel), by decide, by decide⟩
theorem fl_B_80 : FL "SpanStore$Block" 80 0 12 := ⟨wm 96 (by decide +kernel) (by decide +kernel), by decide, by decide⟩
theorem fl_B_49 : FL "SpanStore$Block" 49 0 13 := ⟨wm 97 (by decide +kernel) (by decide +kernel), by decide, by decide⟩
theorem ak_int : Cond.arrayClass .int ∈ tbG := wm 127 (by decide +kernel) (by decide +kernel)
theorem ak_boolean : Cond.arrayClass .boolean ∈ tbG := wm 128 (by decide +kernel) (by decide +kernel)
theorem it_1 : Cond.instantiable (fR 1) (fN 1) ∈ tbG ∧ Cond.initialized (fR 1) ∈ tbG := ⟨wm 129 (by decide +kernel) (by decide +kernel), wm 44 (by decide +kernel) (by decide +kernel)⟩
theorem ml_T_24 : Cond.methodLink "SpanStore$Table" 24 y_K_init ∈ tbG := wm 130 (by decide +kernel) (by decide +kernel)
theorem ml_K_3 : Cond.methodLink "SpanStore$Keeper" 3 objectInit ∈ tbG := wm 133 (by decide +kernel) (by decide +kernel)
theorem fl_K_9 : FL "SpanStore$Keeper" 9 1 0 := ⟨wm 134 (by decide +kernel) (by decide +kernel), by decide, by decide⟩
theorem fl_T_58 : FL "SpanStore$Table" 58 1 0 := ⟨wm 135 (by decide +kernel) (by decide +kernel), by decide, by decide⟩
theorem fl_K_15 : FL "SpanStore$Keeper" 15 1 1 := ⟨wm 136 (by decide +kernel) (by decide +kernel), by decide, by decide⟩
theorem fl_T_61 : FL "SpanStore$Table" 61 1 1 := ⟨wm 137 (by decide +kernel) (by decide +kernel), by decide, by decide⟩
theorem fl_K_18 : FL "SpanStore$Keeper" 18 1 2 := ⟨wm 138 (by decide +kernel) (by decide +kernel), by decide, by decide⟩
theorem fl_T_64 : FL "SpanStore$Table" 64 1 2 := ⟨wm 139 (by decide +kernel) (by decide +kernel), by decide, by decide⟩
theorem fl_T_11 : FL "SpanStore$Table" 11 3 0 := ⟨wm 147 (by decide +kernel) (by decide +kernel), by decide, by decide⟩
theorem fl_C_182 : FL "SpanStore" 182 3 0 := ⟨wm 148 (by decide +kernel) (by decide +kernel), by decide, by decide⟩
theorem fl_T_19 : FL "SpanStore$Table" 19 3 1 := ⟨wm 149 (by decide +kernel) (by decide +kernel), by decide, by decide⟩
theorem fl_T_25 : FL "SpanStore$Table" 25 3 2 := ⟨wm 150 (by decide +kernel) (by decide +kernel), by decide, by decide⟩
theorem fl_C_71 : FL "SpanStore" 71 3 2 := ⟨wm 151 (by decide +kernel) (by decide +kernel), by decide, by decide⟩
theorem fl_C_39 : FL "SpanStore" 39 3 3 := ⟨wm 152 (by decide +kernel) (by decide +kernel), by decide, by decide⟩
theorem fl_T_45 : FL "SpanStore$Table" 45 3 3 := ⟨wm 153 (by decide +kernel) (by decide +kernel), by decide, by decide⟩
theorem it_2 : Cond.instantiable (fR 2) (fN 2) ∈ tbG ∧ Cond.initialized (fR 2) ∈ tbG := ⟨wm 163 (by decide +kernel) (by decide +kernel), wm 45 (by decide +kernel) (by decide +kernel)⟩
theorem ml_C_26 : Cond.methodLink "SpanStore" 26 y_S_init ∈ tbG := wm 164 (by decide +kernel) (by decide +kernel)
theorem ml_S_3 : Cond.methodLink "SpanStore$Sheet" 3 objectInit ∈ tbG := wm 167 (by decide +kernel) (by decide +kernel)
theorem fl_S_9 : FL "SpanStore$Sheet" 9 2 0 := ⟨wm 168 (by decide +kernel) (by decide +kernel), by decide, by decide⟩
theorem fl_C_65 : FL "SpanStore" 65 2 0 := ⟨wm 169 (by decide +kernel) (by decide +kernel), by decide, by decide⟩
theorem fl_S_25 : FL "SpanStore$Sheet" 25 2 1 := ⟨wm 170 (by decide +kernel) (by decide +kernel), by decide, by decide⟩
theorem fl_C_170 : FL "SpanStore" 170 2 1 := ⟨wm 171 (by decide +kernel) (by decide +kernel), by decide, by decide⟩
theorem fl_S_29 : FL "SpanStore$Sheet" 29 2 2 := ⟨wm 172 (by decide +kernel) (by decide +kernel), by decide, by decide⟩
theorem fl_C_64 : FL "SpanStore" 64 2 2 := ⟨wm 173 (by decide +kernel) (by decide +kernel), by decide, by decide⟩
theorem fl_B_111 : FL "SpanStore$Block" 111 2 2 := ⟨wm 174 (by decide +kernel) (by decide +kernel), by decide, by decide⟩
theorem fl_S_15 : FL "SpanStore$Sheet" 15 2 3 := ⟨wm 175 (by decide +kernel) (by decide +kernel), by decide, by decide⟩
theorem fl_C_57 : FL "SpanStore" 57 2 3 := ⟨wm 176 (by decide +kernel) (by decide +kernel), by decide, by decide⟩
theorem fl_C_11 : FL "SpanStore" 11 4 0 := ⟨wm 186 (by decide +kernel) (by decide +kernel), by decide, by decide⟩
theorem fl_C_17 : FL "SpanStore" 17 4 1 := ⟨wm 187 (by decide +kernel) (by decide +kernel), by decide, by decide⟩
theorem fl_C_21 : FL "SpanStore" 21 4 2 := ⟨wm 188 (by decide +kernel) (by decide +kernel), by decide, by decide⟩
theorem fl_C_190 : FL "SpanStore" 190 4 3 := ⟨wm 189 (by decide +kernel) (by decide +kernel), by decide, by decide⟩
theorem fl_C_193 : FL "SpanStore" 193 4 4 := ⟨wm 190 (by decide +kernel) (by decide +kernel), by decide, by decide⟩
theorem ml_L_13 : Cond.methodLink "SpanStoreLaw" 13 y_C_row ∈ tbG := wm 202 (by decide +kernel) (by decide +kernel)
theorem ml_C_27 : Cond.methodLink "SpanStore" 27 y_C_tableAt ∈ tbG := wm 206 (by decide +kernel) (by decide +kernel)
theorem ml_C_31 : Cond.methodLink "SpanStore" 31 y_C_blockAt ∈ tbG := wm 210 (by decide +kernel) (by decide +kernel)
theorem ml_C_35 : Cond.methodLink "SpanStore" 35 y_C_isRow ∈ tbG := wm 213 (by decide +kernel) (by decide +kernel)
theorem ml_C_98 : Cond.methodLink "SpanStore" 98 y_C_isValue ∈ tbG := wm 216 (by decide +kernel) (by decide +kernel)
theorem ml_C_49 : Cond.methodLink "SpanStore" 49 y_B_addRow ∈ tbG := wm 219 (by decide +kernel) (by decide +kernel)
theorem ml_L_18 : Cond.methodLink "SpanStoreLaw" 18 y_C_load ∈ tbG := wm 223 (by decide +kernel) (by decide +kernel)
theorem ml_C_53 : Cond.methodLink "SpanStore" 53 y_C_sheetAt ∈ tbG := wm 227 (by decide +kernel) (by decide +kernel)
theorem ml_C_60 : Cond.methodLink "SpanStore" 60 y_C_found ∈ tbG := wm 231 (by decide +kernel) (by decide +kernel)
theorem ml_L_23 : Cond.methodLink "SpanStoreLaw" 23 y_C_keeper ∈ tbG := wm 235 (by decide +kernel) (by decide +kernel)
theorem ml_C_68 : Cond.methodLink "SpanStore" 68 y_C_isKeeper ∈ tbG := wm 239 (by decide +kernel) (by decide +kernel)
theorem ml_C_143 : Cond.methodLink "SpanStore" 143 y_C_isModulus ∈ tbG := wm 242 (by decide +kernel) (by decide +kernel)
theorem ml_C_74 : Cond.methodLink "SpanStore" 74 y_T_addKeeper ∈ tbG := wm 245 (by decide +kernel) (by decide +kernel)
theorem ml_T_29 : Cond.methodLink "SpanStore$Table" 29 y_K_become ∈ tbG := wm 249 (by decide +kernel) (by decide +kernel)
theorem ml_L_28 : Cond.methodLink "SpanStoreLaw" 28 y_C_seal ∈ tbG := wm 253 (by decide +kernel) (by decide +kernel)
theorem ml_C_77 : Cond.methodLink "SpanStore" 77 y_T_close ∈ tbG := wm 257 (by decide +kernel) (by decide +kernel)
theorem ml_T_33 : Cond.methodLink "SpanStore$Table" 33 y_T_topHiddenAmount ∈ tbG := wm 261 (by decide +kernel) (by decide +kernel)
theorem ml_T_88 : Cond.methodLink "SpanStore$Table" 88 y_A_min ∈ tbG := wm 265 (by decide +kernel) (by decide +kernel)
theorem ml_T_37 : Cond.methodLink "SpanStore$Table" 37 y_T_keepRows ∈ tbG := wm 268 (by decide +kernel) (by decide +kernel)
theorem ml_T_93 : Cond.methodLink "SpanStore$Table" 93 y_T_isKept ∈ tbG := wm 272 (by decide +kernel) (by decide +kernel)
theorem ml_T_100 : Cond.methodLink "SpanStore$Table" 100 y_K_keeps ∈ tbG := wm 276 (by decide +kernel) (by decide +kernel)
theorem ml_K_21 : Cond.methodLink "SpanStore$Keeper" 21 y_B_hasRow ∈ tbG := wm 280 (by decide +kernel) (by decide +kernel)
theorem mn_K_27 : Cond.methodLinkNest "SpanStore$Keeper" 27 y_C_isCongruent "SpanStore" ∈ lw_tbl := List.mem_of_getElem? (i := 284) (by decide +kernel)
theorem ml_K_31 : Cond.methodLink "SpanStore$Keeper" 31 y_B_earlierOfItsGroup ∈ tbG := wm 287 (by decide +kernel) (by decide +kernel)
theorem ml_K_42 : Cond.methodLink "SpanStore$Keeper" 42 y_A_abs ∈ tbG := wm 291 (by decide +kernel) (by decide +kernel)
theorem ml_T_97 : Cond.methodLink "SpanStore$Table" 97 y_B_know ∈ tbG := wm 294 (by decide +kernel) (by decide +kernel)
theorem ml_B_41 : Cond.methodLink "SpanStore$Block" 41 y_B_hasRow ∈ tbG := wm 298 (by decide +kernel) (by decide +kernel)
theorem ml_T_41 : Cond.methodLink "SpanStore$Table" 41 y_B_measure ∈ tbG := wm 299 (by decide +kernel) (by decide +kernel)
theorem ml_B_59 : Cond.methodLink "SpanStore$Block" 59 y_A_min ∈ tbG := wm 303 (by decide +kernel) (by decide +kernel)
theorem ml_B_65 : Cond.methodLink "SpanStore$Block" 65 y_A_max ∈ tbG := wm 304 (by decide +kernel) (by decide +kernel)
theorem ml_B_74 : Cond.methodLink "SpanStore$Block" 74 y_B_isKnownValue ∈ tbG := wm 307 (by decide +kernel) (by decide +kernel)
theorem ml_C_80 : Cond.methodLink "SpanStore" 80 y_T_knownRows ∈ tbG := wm 311 (by decide +kernel) (by decide +kernel)
theorem ml_L_33 : Cond.methodLink "SpanStoreLaw" 33 y_C_clear ∈ tbG := wm 315 (by decide +kernel) (by decide +kernel)
theorem ml_C_84 : Cond.methodLink "SpanStore" 84 y_T_rows ∈ tbG := wm 319 (by decide +kernel) (by decide +kernel)
theorem ml_C_87 : Cond.methodLink "SpanStore" 87 y_T_empty ∈ tbG := wm 323 (by decide +kernel) (by decide +kernel)
theorem ml_T_49 : Cond.methodLink "SpanStore$Table" 49 y_B_empty ∈ tbG := wm 327 (by decide +kernel) (by decide +kernel)
theorem ml_B_35 : Cond.methodLink "SpanStore$Block" 35 y_J_fill ∈ tbG := wm 331 (by decide +kernel) (by decide +kernel)
theorem ml_L_37 : Cond.methodLink "SpanStoreLaw" 37 y_C_read ∈ tbG := wm 334 (by decide +kernel) (by decide +kernel)
theorem ml_C_90 : Cond.methodLink "SpanStore" 90 y_C_readBlock ∈ tbG := wm 338 (by decide +kernel) (by decide +kernel)
theorem ml_C_212 : Cond.methodLink "SpanStore" 212 y_B_knowAll ∈ tbG := wm 342 (by decide +kernel) (by decide +kernel)
theorem ml_B_45 : Cond.methodLink "SpanStore$Block" 45 y_B_know ∈ tbG := wm 346 (by decide +kernel) (by decide +kernel)
theorem ml_L_42 : Cond.methodLink "SpanStoreLaw" 42 y_C_change ∈ tbG := wm 347 (by decide +kernel) (by decide +kernel)
theorem ml_C_94 : Cond.methodLink "SpanStore" 94 y_B_hasRow ∈ tbG := wm 351 (by decide +kernel) (by decide +kernel)
theorem ml_C_101 : Cond.methodLink "SpanStore" 101 y_B_changeRow ∈ tbG := wm 352 (by decide +kernel) (by decide +kernel)
theorem ml_L_46 : Cond.methodLink "SpanStoreLaw" 46 y_C_value ∈ tbG := wm 356 (by decide +kernel) (by decide +kernel)
theorem kc_C_111 : Cond.constant "SpanStore" 111 (-2147483648) ∈ tbG := wm 360 (by decide +kernel) (by decide +kernel)
theorem ml_L_51 : Cond.methodLink "SpanStoreLaw" 51 y_C_about ∈ tbG := wm 361 (by decide +kernel) (by decide +kernel)
theorem ml_C_115 : Cond.methodLink "SpanStore" 115 y_C_isFact ∈ tbG := wm 365 (by decide +kernel) (by decide +kernel)
theorem ml_C_118 : Cond.methodLink "SpanStore" 118 y_B_fact ∈ tbG := wm 368 (by decide +kernel) (by decide +kernel)
theorem ml_B_83 : Cond.methodLink "SpanStore$Block" 83 y_B_isHalf ∈ tbG := wm 372 (by decide +kernel) (by decide +kernel)
theorem ml_B_87 : Cond.methodLink "SpanStore$Block" 87 y_B_owesLeast ∈ tbG := wm 376 (by decide +kernel) (by decide +kernel)
theorem ml_B_90 : Cond.methodLink "SpanStore$Block" 90 y_B_owesGreatest ∈ tbG := wm 380 (by decide +kernel) (by decide +kernel)
theorem ml_B_93 : Cond.methodLink "SpanStore$Block" 93 y_B_groupSize ∈ tbG := wm 384 (by decide +kernel) (by decide +kernel)
theorem ml_L_55 : Cond.methodLink "SpanStoreLaw" 55 y_C_sum ∈ tbG := wm 388 (by decide +kernel) (by decide +kernel)
theorem ml_C_121 : Cond.methodLink "SpanStore" 121 y_C_isGroupOrAll ∈ tbG := wm 392 (by decide +kernel) (by decide +kernel)
theorem ml_C_124 : Cond.methodLink "SpanStore" 124 y_C_isEnd ∈ tbG := wm 395 (by decide +kernel) (by decide +kernel)
theorem kc_C_129 : Cond.constantLong "SpanStore" 129 (-9223372036854775808) ∈ tbG := wm 398 (by decide +kernel) (by decide +kernel)
theorem ml_C_131 : Cond.methodLink "SpanStore" 131 y_T_sumEnd ∈ tbG := wm 399 (by decide +kernel) (by decide +kernel)
theorem ml_T_67 : Cond.methodLink "SpanStore$Table" 67 y_B_sumEnd ∈ tbG := wm 403 (by decide +kernel) (by decide +kernel)
theorem ml_B_97 : Cond.methodLink "SpanStore$Block" 97 y_B_hiddenSumEnd ∈ tbG := wm 407 (by decide +kernel) (by decide +kernel)
theorem ml_L_60 : Cond.methodLink "SpanStoreLaw" 60 y_C_count ∈ tbG := wm 411 (by decide +kernel) (by decide +kernel)
theorem ml_C_135 : Cond.methodLink "SpanStore" 135 y_T_countEnd ∈ tbG := wm 415 (by decide +kernel) (by decide +kernel)
theorem ml_T_72 : Cond.methodLink "SpanStore$Table" 72 y_B_countEnd ∈ tbG := wm 419 (by decide +kernel) (by decide +kernel)
theorem ml_B_104 : Cond.methodLink "SpanStore$Block" 104 y_B_hiddenCountEnd ∈ tbG := wm 423 (by decide +kernel) (by decide +kernel)
theorem ml_L_64 : Cond.methodLink "SpanStoreLaw" 64 y_C_join ∈ tbG := wm 427 (by decide +kernel) (by decide +kernel)
theorem ml_C_139 : Cond.methodLink "SpanStore" 139 y_C_knownPairs ∈ tbG := wm 431 (by decide +kernel) (by decide +kernel)
theorem ml_C_215 : Cond.methodLink "SpanStore" 215 y_J_fill ∈ tbG := wm 435 (by decide +kernel) (by decide +kernel)
theorem ml_C_221 : Cond.methodLink "SpanStore" 221 y_B_addKnownKeys ∈ tbG := wm 436 (by decide +kernel) (by decide +kernel)
theorem ml_C_225 : Cond.methodLink "SpanStore" 225 y_B_pairsWith ∈ tbG := wm 440 (by decide +kernel) (by decide +kernel)
theorem mn_B_107 : Cond.methodLinkNest "SpanStore$Block" 107 y_C_isCongruent "SpanStore" ∈ lw_tbl := List.mem_of_getElem? (i := 444) (by decide +kernel)
theorem ml_L_68 : Cond.methodLink "SpanStoreLaw" 68 y_C_part ∈ tbG := wm 445 (by decide +kernel) (by decide +kernel)
theorem ml_C_147 : Cond.methodLink "SpanStore" 147 y_T_hasKeyed ∈ tbG := wm 449 (by decide +kernel) (by decide +kernel)
theorem ml_L_72 : Cond.methodLink "SpanStoreLaw" 72 y_C_next ∈ tbG := wm 453 (by decide +kernel) (by decide +kernel)
theorem ml_C_150 : Cond.methodLink "SpanStore" 150 y_T_widestBlock ∈ tbG := wm 457 (by decide +kernel) (by decide +kernel)
theorem ml_T_76 : Cond.methodLink "SpanStore$Table" 76 y_B_apart ∈ tbG := wm 461 (by decide +kernel) (by decide +kernel)
theorem ml_B_100 : Cond.methodLink "SpanStore$Block" 100 y_B_sumEnd ∈ tbG := wm 465 (by decide +kernel) (by decide +kernel)
theorem ml_L_76 : Cond.methodLink "SpanStoreLaw" 76 y_C_refine ∈ tbG := wm 466 (by decide +kernel) (by decide +kernel)
theorem kc_C_153 : Cond.constant "SpanStore" 153 (1000000) ∈ tbG := wm 470 (by decide +kernel) (by decide +kernel)
theorem ml_C_154 : Cond.methodLink "SpanStore" 154 y_T_apart ∈ tbG := wm 471 (by decide +kernel) (by decide +kernel)
theorem ml_T_71 : Cond.methodLink "SpanStore$Table" 71 y_T_sumEnd ∈ tbG := wm 475 (by decide +kernel) (by decide +kernel)
theorem ml_L_80 : Cond.methodLink "SpanStoreLaw" 80 y_C_sheet ∈ tbG := wm 476 (by decide +kernel) (by decide +kernel)
theorem ml_C_158 : Cond.methodLink "SpanStore" 158 y_C_isForm ∈ tbG := wm 480 (by decide +kernel) (by decide +kernel)
theorem ml_C_161 : Cond.methodLink "SpanStore" 161 y_S_renew ∈ tbG := wm 483 (by decide +kernel) (by decide +kernel)
theorem ml_S_19 : Cond.methodLink "SpanStore$Sheet" 19 y_J_fill ∈ tbG := wm 487 (by decide +kernel) (by decide +kernel)
theorem ml_L_84 : Cond.methodLink "SpanStoreLaw" 84 y_C_lose ∈ tbG := wm 488 (by decide +kernel) (by decide +kernel)
theorem ml_L_88 : Cond.methodLink "SpanStoreLaw" 88 y_C_put ∈ tbG := wm 492 (by decide +kernel) (by decide +kernel)
theorem ml_C_164 : Cond.methodLink "SpanStore" 164 y_S_faultOf ∈ tbG := wm 496 (by decide +kernel) (by decide +kernel)
theorem ml_C_167 : Cond.methodLink "SpanStore" 167 y_S_store ∈ tbG := wm 500 (by decide +kernel) (by decide +kernel)
theorem ml_S_32 : Cond.methodLink "SpanStore$Sheet" 32 y_S_cut ∈ tbG := wm 504 (by decide +kernel) (by decide +kernel)
theorem ml_L_92 : Cond.methodLink "SpanStoreLaw" 92 y_C_get ∈ tbG := wm 508 (by decide +kernel) (by decide +kernel)
theorem ml_L_96 : Cond.methodLink "SpanStoreLaw" 96 y_C_copy ∈ tbG := wm 512 (by decide +kernel) (by decide +kernel)
theorem ml_C_173 : Cond.methodLink "SpanStore" 173 y_S_hasStretch ∈ tbG := wm 516 (by decide +kernel) (by decide +kernel)
theorem ml_C_176 : Cond.methodLink "SpanStore" 176 arraycopyName ∈ tbG := wm 520 (by decide +kernel) (by decide +kernel)
theorem ac_stat : Cond.static arraycopyName ∈ tbG := wm 521 (by decide +kernel) (by decide +kernel)
theorem ac_nat : Cond.native arraycopyName ∈ tbG := wm 522 (by decide +kernel) (by decide +kernel)
theorem ml_L_100 : Cond.methodLink "SpanStoreLaw" 100 y_C_write ∈ tbG := wm 523 (by decide +kernel) (by decide +kernel)
theorem ml_C_186 : Cond.methodLink "SpanStore" 186 y_B_writeKnown ∈ tbG := wm 527 (by decide +kernel) (by decide +kernel)
theorem ml_B_114 : Cond.methodLink "SpanStore$Block" 114 y_S_store ∈ tbG := wm 531 (by decide +kernel) (by decide +kernel)
theorem ml_L_104 : Cond.methodLink "SpanStoreLaw" 104 y_C_told ∈ tbG := wm 532 (by decide +kernel) (by decide +kernel)
theorem ml_L_108 : Cond.methodLink "SpanStoreLaw" 108 y_C_digest ∈ tbG := wm 536 (by decide +kernel) (by decide +kernel)
theorem kc_C_196 : Cond.constantLong "SpanStore" 196 (17) ∈ tbG := wm 540 (by decide +kernel) (by decide +kernel)
theorem ml_C_198 : Cond.methodLink "SpanStore" 198 y_C_told ∈ tbG := wm 541 (by decide +kernel) (by decide +kernel)
theorem ml_C_201 : Cond.methodLink "SpanStore" 201 y_C_mixed ∈ tbG := wm 542 (by decide +kernel) (by decide +kernel)
theorem kc_C_229 : Cond.constantLong "SpanStore" 229 (31) ∈ tbG := wm 545 (by decide +kernel) (by decide +kernel)
theorem ml_C_205 : Cond.methodLink "SpanStore" 205 y_T_mixedInto ∈ tbG := wm 546 (by decide +kernel) (by decide +kernel)
theorem ml_T_80 : Cond.methodLink "SpanStore$Table" 80 y_B_mixedInto ∈ tbG := wm 550 (by decide +kernel) (by decide +kernel)
theorem mn_B_118 : Cond.methodLinkNest "SpanStore$Block" 118 y_C_isFact "SpanStore" ∈ lw_tbl := List.mem_of_getElem? (i := 554) (by decide +kernel)
theorem ml_B_121 : Cond.methodLink "SpanStore$Block" 121 y_B_fact ∈ tbG := wm 555 (by decide +kernel) (by decide +kernel)
theorem mn_B_124 : Cond.methodLinkNest "SpanStore$Block" 124 y_C_mixed "SpanStore" ∈ lw_tbl := List.mem_of_getElem? (i := 556) (by decide +kernel)
theorem mn_T_84 : Cond.methodLinkNest "SpanStore$Table" 84 y_C_mixed "SpanStore" ∈ lw_tbl := List.mem_of_getElem? (i := 557) (by decide +kernel)
theorem cl_L_10 : Cond.classLink "SpanStoreLaw" 10 (fR 5) ∈ tbG := wm 558 (by decide +kernel) (by decide +kernel)
theorem it_5 : Cond.instantiable (fR 5) (fN 5) ∈ tbG ∧ Cond.initialized (fR 5) ∈ tbG := ⟨wm 559 (by decide +kernel) (by decide +kernel), wm 46 (by decide +kernel) (by decide +kernel)⟩
theorem ml_L_12 : Cond.methodLink "SpanStoreLaw" 12 y_M_init ∈ tbG := wm 560 (by decide +kernel) (by decide +kernel)
theorem ml_M_1 : Cond.methodLink "SpanStoreModel" 1 objectInit ∈ tbG := wm 563 (by decide +kernel) (by decide +kernel)
theorem fl_M_7 : FL "SpanStoreModel" 7 5 0 := ⟨wm 564 (by decide +kernel) (by decide +kernel), by decide, by decide⟩
theorem fl_M_13 : FL "SpanStoreModel" 13 5 1 := ⟨wm 565 (by decide +kernel) (by decide +kernel), by decide, by decide⟩
theorem fl_M_16 : FL "SpanStoreModel" 16 5 2 := ⟨wm 566 (by decide +kernel) (by decide +kernel), by decide, by decide⟩
theorem fl_M_19 : FL "SpanStoreModel" 19 5 3 := ⟨wm 567 (by decide +kernel) (by decide +kernel), by decide, by decide⟩
theorem fl_M_22 : FL "SpanStoreModel" 22 5 4 := ⟨wm 568 (by decide +kernel) (by decide +kernel), by decide, by decide⟩
theorem fl_M_26 : FL "SpanStoreModel" 26 5 5 := ⟨wm 569 (by decide +kernel) (by decide +kernel), by decide, by decide⟩
theorem fl_M_29 : FL "SpanStoreModel" 29 5 6 := ⟨wm 570 (by decide +kernel) (by decide +kernel), by decide, by decide⟩
theorem fl_M_32 : FL "SpanStoreModel" 32 5 7 := ⟨wm 571 (by decide +kernel) (by decide +kernel), by decide, by decide⟩
theorem fl_M_35 : FL "SpanStoreModel" 35 5 8 := ⟨wm 572 (by decide +kernel) (by decide +kernel), by decide, by decide⟩
theorem fl_M_38 : FL "SpanStoreModel" 38 5 9 := ⟨wm 573 (by decide +kernel) (by decide +kernel), by decide, by decide⟩
theorem fl_M_41 : FL "SpanStoreModel" 41 5 10 := ⟨wm 574 (by decide +kernel) (by decide +kernel), by decide, by decide⟩
theorem fl_M_44 : FL "SpanStoreModel" 44 5 11 := ⟨wm 575 (by decide +kernel) (by decide +kernel), by decide, by decide⟩
theorem fl_M_47 : FL "SpanStoreModel" 47 5 12 := ⟨wm 576 (by decide +kernel) (by decide +kernel), by decide, by decide⟩
theorem fl_M_50 : FL "SpanStoreModel" 50 5 13 := ⟨wm 577 (by decide +kernel) (by decide +kernel), by decide, by decide⟩
theorem fl_M_53 : FL "SpanStoreModel" 53 5 14 := ⟨wm 578 (by decide +kernel) (by decide +kernel), by decide, by decide⟩
theorem fl_M_56 : FL "SpanStoreModel" 56 5 15 := ⟨wm 579 (by decide +kernel) (by decide +kernel), by decide, by decide⟩
theorem fl_M_119 : FL "SpanStoreModel" 119 5 16 := ⟨wm 580 (by decide +kernel) (by decide +kernel), by decide, by decide⟩
theorem fl_M_59 : FL "SpanStoreModel" 59 5 17 := ⟨wm 581 (by decide +kernel) (by decide +kernel), by decide, by decide⟩
theorem fl_M_62 : FL "SpanStoreModel" 62 5 18 := ⟨wm 582 (by decide +kernel) (by decide +kernel), by decide, by decide⟩
theorem fl_M_65 : FL "SpanStoreModel" 65 5 19 := ⟨wm 583 (by decide +kernel) (by decide +kernel), by decide, by decide⟩
theorem fl_M_68 : FL "SpanStoreModel" 68 5 20 := ⟨wm 584 (by decide +kernel) (by decide +kernel), by decide, by decide⟩
theorem fl_M_71 : FL "SpanStoreModel" 71 5 21 := ⟨wm 585 (by decide +kernel) (by decide +kernel), by decide, by decide⟩
theorem fl_M_179 : FL "SpanStoreModel" 179 5 22 := ⟨wm 586 (by decide +kernel) (by decide +kernel), by decide, by decide⟩
theorem ml_L_17 : Cond.methodLink "SpanStoreLaw" 17 y_M_row ∈ tbG := wm 634 (by decide +kernel) (by decide +kernel)
theorem ml_M_82 : Cond.methodLink "SpanStoreModel" 82 y_M_isBlock ∈ tbG := wm 638 (by decide +kernel) (by decide +kernel)
theorem ml_M_78 : Cond.methodLink "SpanStoreModel" 78 y_M_isTable ∈ tbG := wm 641 (by decide +kernel) (by decide +kernel)
theorem ml_M_74 : Cond.methodLink "SpanStoreModel" 74 y_M_in ∈ tbG := wm 644 (by decide +kernel) (by decide +kernel)
theorem ml_M_86 : Cond.methodLink "SpanStoreModel" 86 y_M_isRow ∈ tbG := wm 647 (by decide +kernel) (by decide +kernel)
theorem ml_M_89 : Cond.methodLink "SpanStoreModel" 89 y_M_lays ∈ tbG := wm 650 (by decide +kernel) (by decide +kernel)
theorem ml_L_22 : Cond.methodLink "SpanStoreLaw" 22 y_M_load ∈ tbG := wm 654 (by decide +kernel) (by decide +kernel)
theorem ml_M_93 : Cond.methodLink "SpanStoreModel" 93 y_M_isSheet ∈ tbG := wm 658 (by decide +kernel) (by decide +kernel)
theorem ml_M_96 : Cond.methodLink "SpanStoreModel" 96 y_M_meets ∈ tbG := wm 661 (by decide +kernel) (by decide +kernel)
theorem ml_L_27 : Cond.methodLink "SpanStoreLaw" 27 y_M_keeper ∈ tbG := wm 665 (by decide +kernel) (by decide +kernel)
theorem ml_L_32 : Cond.methodLink "SpanStoreLaw" 32 y_M_seal ∈ tbG := wm 669 (by decide +kernel) (by decide +kernel)
theorem ml_M_106 : Cond.methodLink "SpanStoreModel" 106 y_M_seals ∈ tbG := wm 673 (by decide +kernel) (by decide +kernel)
theorem ml_M_103 : Cond.methodLink "SpanStoreModel" 103 y_M_keeps ∈ tbG := wm 677 (by decide +kernel) (by decide +kernel)
theorem ml_M_100 : Cond.methodLink "SpanStoreModel" 100 y_M_amount ∈ tbG := wm 681 (by decide +kernel) (by decide +kernel)
theorem ml_M_110 : Cond.methodLink "SpanStoreModel" 110 y_M_knownOf ∈ tbG := wm 684 (by decide +kernel) (by decide +kernel)
theorem ml_M_113 : Cond.methodLink "SpanStoreModel" 113 y_M_rowsOf ∈ tbG := wm 688 (by decide +kernel) (by decide +kernel)
theorem ml_M_116 : Cond.methodLink "SpanStoreModel" 116 y_M_unknownOf ∈ tbG := wm 692 (by decide +kernel) (by decide +kernel)
theorem ml_L_36 : Cond.methodLink "SpanStoreLaw" 36 y_M_clear ∈ tbG := wm 696 (by decide +kernel) (by decide +kernel)
theorem ml_L_41 : Cond.methodLink "SpanStoreLaw" 41 y_M_read ∈ tbG := wm 700 (by decide +kernel) (by decide +kernel)
theorem ml_M_123 : Cond.methodLink "SpanStoreModel" 123 y_M_readsAll ∈ tbG := wm 704 (by decide +kernel) (by decide +kernel)
theorem ml_L_45 : Cond.methodLink "SpanStoreLaw" 45 y_M_change ∈ tbG := wm 708 (by decide +kernel) (by decide +kernel)
theorem ml_M_126 : Cond.methodLink "SpanStoreModel" 126 y_M_isRowAt ∈ tbG := wm 712 (by decide +kernel) (by decide +kernel)
theorem ml_L_50 : Cond.methodLink "SpanStoreLaw" 50 y_M_value ∈ tbG := wm 716 (by decide +kernel) (by decide +kernel)
theorem kc_M_129 : Cond.constant "SpanStoreModel" 129 (-2147483648) ∈ tbG := wm 720 (by decide +kernel) (by decide +kernel)
theorem ml_L_54 : Cond.methodLink "SpanStoreLaw" 54 y_M_about ∈ tbG := wm 721 (by decide +kernel) (by decide +kernel)
theorem ml_M_133 : Cond.methodLink "SpanStoreModel" 133 y_M_lowOf ∈ tbG := wm 725 (by decide +kernel) (by decide +kernel)
theorem ml_M_130 : Cond.methodLink "SpanStoreModel" 130 y_M_heavyOf ∈ tbG := wm 729 (by decide +kernel) (by decide +kernel)
theorem ml_M_140 : Cond.methodLink "SpanStoreModel" 140 y_M_highOf ∈ tbG := wm 733 (by decide +kernel) (by decide +kernel)
theorem ml_M_143 : Cond.methodLink "SpanStoreModel" 143 y_M_owesLeast ∈ tbG := wm 737 (by decide +kernel) (by decide +kernel)
theorem ml_M_137 : Cond.methodLink "SpanStoreModel" 137 y_M_isUnseen ∈ tbG := wm 741 (by decide +kernel) (by decide +kernel)
theorem ml_M_146 : Cond.methodLink "SpanStoreModel" 146 y_M_owesGreatest ∈ tbG := wm 745 (by decide +kernel) (by decide +kernel)
theorem ml_L_59 : Cond.methodLink "SpanStoreLaw" 59 y_M_sum ∈ tbG := wm 749 (by decide +kernel) (by decide +kernel)
theorem ml_M_153 : Cond.methodLink "SpanStoreModel" 153 y_M_isGroup ∈ tbG := wm 753 (by decide +kernel) (by decide +kernel)
theorem kc_M_156 : Cond.constantLong "SpanStoreModel" 156 (-9223372036854775808) ∈ tbG := wm 756 (by decide +kernel) (by decide +kernel)
theorem ml_M_158 : Cond.methodLink "SpanStoreModel" 158 y_M_sumNow ∈ tbG := wm 757 (by decide +kernel) (by decide +kernel)
theorem ml_M_149 : Cond.methodLink "SpanStoreModel" 149 y_M_sumOf ∈ tbG := wm 761 (by decide +kernel) (by decide +kernel)
theorem ml_L_63 : Cond.methodLink "SpanStoreLaw" 63 y_M_count ∈ tbG := wm 765 (by decide +kernel) (by decide +kernel)
theorem ml_M_162 : Cond.methodLink "SpanStoreModel" 162 y_M_countOf ∈ tbG := wm 769 (by decide +kernel) (by decide +kernel)
theorem ml_L_67 : Cond.methodLink "SpanStoreLaw" 67 y_M_join ∈ tbG := wm 773 (by decide +kernel) (by decide +kernel)
theorem ml_M_169 : Cond.methodLink "SpanStoreModel" 169 y_M_pairs ∈ tbG := wm 777 (by decide +kernel) (by decide +kernel)
theorem ml_M_166 : Cond.methodLink "SpanStoreModel" 166 y_M_isKnownAt ∈ tbG := wm 781 (by decide +kernel) (by decide +kernel)
theorem ml_L_71 : Cond.methodLink "SpanStoreLaw" 71 y_M_part ∈ tbG := wm 785 (by decide +kernel) (by decide +kernel)
theorem ml_M_172 : Cond.methodLink "SpanStoreModel" 172 y_M_hasKeyed ∈ tbG := wm 789 (by decide +kernel) (by decide +kernel)
theorem ml_L_75 : Cond.methodLink "SpanStoreLaw" 75 y_M_next ∈ tbG := wm 793 (by decide +kernel) (by decide +kernel)
theorem ml_M_175 : Cond.methodLink "SpanStoreModel" 175 y_M_nextOf ∈ tbG := wm 797 (by decide +kernel) (by decide +kernel)
theorem ml_L_79 : Cond.methodLink "SpanStoreLaw" 79 y_M_refine ∈ tbG := wm 801 (by decide +kernel) (by decide +kernel)
theorem kc_M_178 : Cond.constant "SpanStoreModel" 178 (1000000) ∈ tbG := wm 805 (by decide +kernel) (by decide +kernel)
theorem ml_L_83 : Cond.methodLink "SpanStoreLaw" 83 y_M_sheet ∈ tbG := wm 806 (by decide +kernel) (by decide +kernel)
theorem ml_L_87 : Cond.methodLink "SpanStoreLaw" 87 y_M_lose ∈ tbG := wm 810 (by decide +kernel) (by decide +kernel)
theorem ml_L_91 : Cond.methodLink "SpanStoreLaw" 91 y_M_put ∈ tbG := wm 814 (by decide +kernel) (by decide +kernel)
theorem ml_M_182 : Cond.methodLink "SpanStoreModel" 182 y_M_lacks ∈ tbG := wm 818 (by decide +kernel) (by decide +kernel)
theorem ml_M_186 : Cond.methodLink "SpanStoreModel" 186 y_M_lay ∈ tbG := wm 822 (by decide +kernel) (by decide +kernel)
theorem ml_L_95 : Cond.methodLink "SpanStoreLaw" 95 y_M_get ∈ tbG := wm 826 (by decide +kernel) (by decide +kernel)
theorem ml_L_99 : Cond.methodLink "SpanStoreLaw" 99 y_M_copy ∈ tbG := wm 830 (by decide +kernel) (by decide +kernel)
theorem ml_L_103 : Cond.methodLink "SpanStoreLaw" 103 y_M_write ∈ tbG := wm 834 (by decide +kernel) (by decide +kernel)
theorem ml_L_107 : Cond.methodLink "SpanStoreLaw" 107 y_M_told ∈ tbG := wm 838 (by decide +kernel) (by decide +kernel)
theorem ml_L_112 : Cond.methodLink "SpanStoreLaw" 112 y_M_digest ∈ tbG := wm 842 (by decide +kernel) (by decide +kernel)
theorem kc_M_190 : Cond.constantLong "SpanStoreModel" 190 (17) ∈ tbG := wm 846 (by decide +kernel) (by decide +kernel)
theorem kc_M_192 : Cond.constantLong "SpanStoreModel" 192 (31) ∈ tbG := wm 847 (by decide +kernel) (by decide +kernel)
theorem ml_M_194 : Cond.methodLink "SpanStoreModel" 194 y_M_told ∈ tbG := wm 848 (by decide +kernel) (by decide +kernel)
theorem ml_M_197 : Cond.methodLink "SpanStoreModel" 197 y_M_about ∈ tbG := wm 849 (by decide +kernel) (by decide +kernel)
end
section
theorem d_B_init_0 : decode c_B_init 0 = .ok (.aload_n 0, 1) := by decide +kernel
theorem d_B_init_1 : decode c_B_init 1 = .ok (.invokespecial 3, 3) := by decide +kernel
theorem d_B_init_4 : decode c_B_init 4 = .ok (.aload_n 0, 1) := by decide +kernel
theorem d_B_init_5 : decode c_B_init 5 = .ok (.bipush 12, 2) := by decide +kernel
theorem d_B_init_7 : decode c_B_init 7 = .ok (.newarray .int, 2) := by decide +kernel
theorem d_B_init_9 : decode c_B_init 9 = .ok (.putfield 9, 3) := by decide +kernel
theorem d_B_init_12 : decode c_B_init 12 = .ok (.aload_n 0, 1) := by decide +kernel
theorem d_B_init_13 : decode c_B_init 13 = .ok (.bipush 12, 2) := by decide +kernel
theorem d_B_init_15 : decode c_B_init 15 = .ok (.newarray .int, 2) := by decide +kernel
theorem d_B_init_17 : decode c_B_init 17 = .ok (.putfield 15, 3) := by decide +kernel
theorem d_B_init_20 : decode c_B_init 20 = .ok (.aload_n 0, 1) := by decide +kernel
theorem d_B_init_21 : decode c_B_init 21 = .ok (.bipush 12, 2) := by decide +kernel
theorem d_B_init_23 : decode c_B_init 23 = .ok (.newarray .int, 2) := by decide +kernel
theorem d_B_init_25 : decode c_B_init 25 = .ok (.putfield 18, 3) := by decide +kernel
theorem d_B_init_28 : decode c_B_init 28 = .ok (.aload_n 0, 1) := by decide +kernel
theorem d_B_init_29 : decode c_B_init 29 = .ok (.bipush 12, 2) := by decide +kernel
theorem d_B_init_31 : decode c_B_init 31 = .ok (.newarray .boolean, 2) := by decide +kernel
theorem d_B_init_33 : decode c_B_init 33 = .ok (.putfield 21, 3) := by decide +kernel
theorem d_B_init_36 : decode c_B_init 36 = .ok (.aload_n 0, 1) := by decide +kernel
theorem d_B_init_37 : decode c_B_init 37 = .ok (.iconst 4, 1) := by decide +kernel
theorem d_B_init_38 : decode c_B_init 38 = .ok (.newarray .int, 2) := by decide +kernel
theorem d_B_init_40 : decode c_B_init 40 = .ok (.putfield 25, 3) := by decide +kernel
theorem d_B_init_43 : decode c_B_init 43 = .ok (.return_, 1) := by decide +kernel
theorem d_B_hasRow_0 : decode c_B_hasRow 0 = .ok (.iload_n 1, 1) := by decide +kernel
theorem d_B_hasRow_1 : decode c_B_hasRow 1 = .ok (.ifCond .lt 15, 3) := by decide +kernel
theorem d_B_hasRow_4 : decode c_B_hasRow 4 = .ok (.iload_n 1, 1) := by decide +kernel
theorem d_B_hasRow_5 : decode c_B_hasRow 5 = .ok (.aload_n 0, 1) := by decide +kernel
theorem d_B_hasRow_6 : decode c_B_hasRow 6 = .ok (.getfield 28, 3) := by decide +kernel
theorem d_B_hasRow_9 : decode c_B_hasRow 9 = .ok (.if_icmp .ge 7, 3) := by decide +kernel
theorem d_B_hasRow_12 : decode c_B_hasRow 12 = .ok (.iconst 1, 1) := by decide +kernel
theorem d_B_hasRow_13 : decode c_B_hasRow 13 = .ok (.goto 4, 3) := by decide +kernel
theorem d_B_hasRow_16 : decode c_B_hasRow 16 = .ok (.iconst 0, 1) := by decide +kernel
theorem d_B_hasRow_17 : decode c_B_hasRow 17 = .ok (.ireturn, 1) := by decide +kernel
theorem d_B_addRow_0 : decode c_B_addRow 0 = .ok (.aload_n 0, 1) := by decide +kernel
theorem d_B_addRow_1 : decode c_B_addRow 1 = .ok (.getfield 28, 3) := by decide +kernel
theorem d_B_addRow_4 : decode c_B_addRow 4 = .ok (.ifCond .lt 81, 3) := by decide +kernel
theorem d_B_addRow_7 : decode c_B_addRow 7 = .ok (.aload_n 0, 1) := by decide +kernel
theorem d_B_addRow_8 : decode c_B_addRow 8 = .ok (.getfield 28, 3) := by decide +kernel
theorem d_B_addRow_11 : decode c_B_addRow 11 = .ok (.bipush 12, 2) := by decide +kernel
theorem d_B_addRow_13 : decode c_B_addRow 13 = .ok (.if_icmp .ge 72, 3) := by decide +kernel
theorem d_B_addRow_16 : decode c_B_addRow 16 = .ok (.iload_n 2, 1) := by decide +kernel
theorem d_B_addRow_17 : decode c_B_addRow 17 = .ok (.ifCond .lt 68, 3) := by decide +kernel
theorem d_B_addRow_20 : decode c_B_addRow 20 = .ok (.iload_n 2, 1) := by decide +kernel
theorem d_B_addRow_21 : decode c_B_addRow 21 = .ok (.iconst 4, 1) := by decide +kernel
theorem d_B_addRow_22 : decode c_B_addRow 22 = .ok (.if_icmp .ge 63, 3) := by decide +kernel
theorem d_B_addRow_25 : decode c_B_addRow 25 = .ok (.aload_n 0, 1) := by decide +kernel
theorem d_B_addRow_26 : decode c_B_addRow 26 = .ok (.getfield 9, 3) := by decide +kernel
theorem d_B_addRow_29 : decode c_B_addRow 29 = .ok (.aload_n 0, 1) := by decide +kernel
theorem d_B_addRow_30 : decode c_B_addRow 30 = .ok (.getfield 28, 3) := by decide +kernel
theorem d_B_addRow_33 : decode c_B_addRow 33 = .ok (.iload_n 1, 1) := by decide +kernel
theorem d_B_addRow_34 : decode c_B_addRow 34 = .ok (.iastore, 1) := by decide +kernel
theorem d_B_addRow_35 : decode c_B_addRow 35 = .ok (.aload_n 0, 1) := by decide +kernel
theorem d_B_addRow_36 : decode c_B_addRow 36 = .ok (.getfield 15, 3) := by decide +kernel
theorem d_B_addRow_39 : decode c_B_addRow 39 = .ok (.aload_n 0, 1) := by decide +kernel
theorem d_B_addRow_40 : decode c_B_addRow 40 = .ok (.getfield 28, 3) := by decide +kernel
theorem d_B_addRow_43 : decode c_B_addRow 43 = .ok (.iload_n 2, 1) := by decide +kernel
theorem d_B_addRow_44 : decode c_B_addRow 44 = .ok (.iastore, 1) := by decide +kernel
theorem d_B_addRow_45 : decode c_B_addRow 45 = .ok (.aload_n 0, 1) := by decide +kernel
theorem d_B_addRow_46 : decode c_B_addRow 46 = .ok (.getfield 18, 3) := by decide +kernel
theorem d_B_addRow_49 : decode c_B_addRow 49 = .ok (.aload_n 0, 1) := by decide +kernel
theorem d_B_addRow_50 : decode c_B_addRow 50 = .ok (.getfield 28, 3) := by decide +kernel
theorem d_B_addRow_53 : decode c_B_addRow 53 = .ok (.iload_n 3, 1) := by decide +kernel
theorem d_B_addRow_54 : decode c_B_addRow 54 = .ok (.iastore, 1) := by decide +kernel
theorem d_B_addRow_55 : decode c_B_addRow 55 = .ok (.aload_n 0, 1) := by decide +kernel
theorem d_B_addRow_56 : decode c_B_addRow 56 = .ok (.getfield 21, 3) := by decide +kernel
theorem d_B_addRow_59 : decode c_B_addRow 59 = .ok (.aload_n 0, 1) := by decide +kernel
theorem d_B_addRow_60 : decode c_B_addRow 60 = .ok (.getfield 28, 3) := by decide +kernel
theorem d_B_addRow_63 : decode c_B_addRow 63 = .ok (.iconst 0, 1) := by decide +kernel
theorem d_B_addRow_64 : decode c_B_addRow 64 = .ok (.bastore, 1) := by decide +kernel
theorem d_B_addRow_65 : decode c_B_addRow 65 = .ok (.aload_n 0, 1) := by decide +kernel
theorem d_B_addRow_66 : decode c_B_addRow 66 = .ok (.getfield 25, 3) := by decide +kernel
theorem d_B_addRow_69 : decode c_B_addRow 69 = .ok (.iload_n 2, 1) := by decide +kernel
theorem d_B_addRow_70 : decode c_B_addRow 70 = .ok (.dup2, 1) := by decide +kernel
theorem d_B_addRow_71 : decode c_B_addRow 71 = .ok (.iaload, 1) := by decide +kernel
theorem d_B_addRow_72 : decode c_B_addRow 72 = .ok (.iconst 1, 1) := by decide +kernel
theorem d_B_addRow_73 : decode c_B_addRow 73 = .ok (.iadd, 1) := by decide +kernel
theorem d_B_addRow_74 : decode c_B_addRow 74 = .ok (.iastore, 1) := by decide +kernel
theorem d_B_addRow_75 : decode c_B_addRow 75 = .ok (.aload_n 0, 1) := by decide +kernel
theorem d_B_addRow_76 : decode c_B_addRow 76 = .ok (.dup, 1) := by decide +kernel
theorem d_B_addRow_77 : decode c_B_addRow 77 = .ok (.getfield 28, 3) := by decide +kernel
theorem d_B_addRow_80 : decode c_B_addRow 80 = .ok (.iconst 1, 1) := by decide +kernel
theorem d_B_addRow_81 : decode c_B_addRow 81 = .ok (.iadd, 1) := by decide +kernel
theorem d_B_addRow_82 : decode c_B_addRow 82 = .ok (.putfield 28, 3) := by decide +kernel
theorem d_B_addRow_85 : decode c_B_addRow 85 = .ok (.return_, 1) := by decide +kernel
theorem d_B_empty_0 : decode c_B_empty 0 = .ok (.aload_n 0, 1) := by decide +kernel
theorem d_B_empty_1 : decode c_B_empty 1 = .ok (.iconst 0, 1) := by decide +kernel
theorem d_B_empty_2 : decode c_B_empty 2 = .ok (.putfield 28, 3) := by decide +kernel
theorem d_B_empty_5 : decode c_B_empty 5 = .ok (.aload_n 0, 1) := by decide +kernel
theorem d_B_empty_6 : decode c_B_empty 6 = .ok (.iconst 0, 1) := by decide +kernel
theorem d_B_empty_7 : decode c_B_empty 7 = .ok (.putfield 32, 3) := by decide +kernel
theorem d_B_empty_10 : decode c_B_empty 10 = .ok (.aload_n 0, 1) := by decide +kernel
theorem d_B_empty_11 : decode c_B_empty 11 = .ok (.getfield 25, 3) := by decide +kernel
theorem d_B_empty_14 : decode c_B_empty 14 = .ok (.iconst 0, 1) := by decide +kernel
theorem d_B_empty_15 : decode c_B_empty 15 = .ok (.invokestatic 35, 3) := by decide +kernel
theorem d_B_empty_18 : decode c_B_empty 18 = .ok (.return_, 1) := by decide +kernel
theorem d_B_earlierOfItsGroup_0 : decode c_B_earlierOfItsGroup 0 = .ok (.iconst 0, 1) := by decide +kernel
theorem d_B_earlierOfItsGroup_1 : decode c_B_earlierOfItsGroup 1 = .ok (.istore_n 2, 1) := by decide +kernel
theorem d_B_earlierOfItsGroup_2 : decode c_B_earlierOfItsGroup 2 = .ok (.iconst 0, 1) := by decide +kernel
theorem d_B_earlierOfItsGroup_3 : decode c_B_earlierOfItsGroup 3 = .ok (.istore_n 3, 1) := by decide +kernel
theorem d_B_earlierOfItsGroup_4 : decode c_B_earlierOfItsGroup 4 = .ok (.iload_n 3, 1) := by decide +kernel
theorem d_B_earlierOfItsGroup_5 : decode c_B_earlierOfItsGroup 5 = .ok (.iload_n 1, 1) := by decide +kernel
theorem d_B_earlierOfItsGroup_6 : decode c_B_earlierOfItsGroup 6 = .ok (.if_icmp .ge 35, 3) := by decide +kernel
theorem d_B_earlierOfItsGroup_9 : decode c_B_earlierOfItsGroup 9 = .ok (.iload_n 1, 1) := by decide +kernel
theorem d_B_earlierOfItsGroup_10 : decode c_B_earlierOfItsGroup 10 = .ok (.aload_n 0, 1) := by decide +kernel
theorem d_B_earlierOfItsGroup_11 : decode c_B_earlierOfItsGroup 11 = .ok (.getfield 28, 3) := by decide +kernel
theorem d_B_earlierOfItsGroup_14 : decode c_B_earlierOfItsGroup 14 = .ok (.if_icmp .ge 27, 3) := by decide +kernel
theorem d_B_earlierOfItsGroup_17 : decode c_B_earlierOfItsGroup 17 = .ok (.aload_n 0, 1) := by decide +kernel
theorem d_B_earlierOfItsGroup_18 : decode c_B_earlierOfItsGroup 18 = .ok (.getfield 15, 3) := by decide +kernel
theorem d_B_earlierOfItsGroup_21 : decode c_B_earlierOfItsGroup 21 = .ok (.iload_n 3, 1) := by decide +kernel
theorem d_B_earlierOfItsGroup_22 : decode c_B_earlierOfItsGroup 22 = .ok (.iaload, 1) := by decide +kernel
theorem d_B_earlierOfItsGroup_23 : decode c_B_earlierOfItsGroup 23 = .ok (.aload_n 0, 1) := by decide +kernel
theorem d_B_earlierOfItsGroup_24 : decode c_B_earlierOfItsGroup 24 = .ok (.getfield 15, 3) := by decide +kernel
theorem d_B_earlierOfItsGroup_27 : decode c_B_earlierOfItsGroup 27 = .ok (.iload_n 1, 1) := by decide +kernel
theorem d_B_earlierOfItsGroup_28 : decode c_B_earlierOfItsGroup 28 = .ok (.iaload, 1) := by decide +kernel
theorem d_B_earlierOfItsGroup_29 : decode c_B_earlierOfItsGroup 29 = .ok (.if_icmp .ne 6, 3) := by decide +kernel
theorem d_B_earlierOfItsGroup_32 : decode c_B_earlierOfItsGroup 32 = .ok (.iinc 2 1, 3) := by decide +kernel
theorem d_B_earlierOfItsGroup_35 : decode c_B_earlierOfItsGroup 35 = .ok (.iinc 3 1, 3) := by decide +kernel
theorem d_B_earlierOfItsGroup_38 : decode c_B_earlierOfItsGroup 38 = .ok (.goto (-34), 3) := by decide +kernel
theorem d_B_earlierOfItsGroup_41 : decode c_B_earlierOfItsGroup 41 = .ok (.iload_n 2, 1) := by decide +kernel
theorem d_B_earlierOfItsGroup_42 : decode c_B_earlierOfItsGroup 42 = .ok (.ireturn, 1) := by decide +kernel
theorem d_B_know_0 : decode c_B_know 0 = .ok (.aload_n 0, 1) := by decide +kernel
theorem d_B_know_1 : decode c_B_know 1 = .ok (.iload_n 1, 1) := by decide +kernel
theorem d_B_know_2 : decode c_B_know 2 = .ok (.invokevirtual 41, 3) := by decide +kernel
theorem d_B_know_5 : decode c_B_know 5 = .ok (.ifCond .eq 29, 3) := by decide +kernel
theorem d_B_know_8 : decode c_B_know 8 = .ok (.aload_n 0, 1) := by decide +kernel
theorem d_B_know_9 : decode c_B_know 9 = .ok (.getfield 21, 3) := by decide +kernel
theorem d_B_know_12 : decode c_B_know 12 = .ok (.iload_n 1, 1) := by decide +kernel
theorem d_B_know_13 : decode c_B_know 13 = .ok (.baload, 1) := by decide +kernel
theorem d_B_know_14 : decode c_B_know 14 = .ok (.ifCond .ne 20, 3) := by decide +kernel
theorem d_B_know_17 : decode c_B_know 17 = .ok (.aload_n 0, 1) := by decide +kernel
theorem d_B_know_18 : decode c_B_know 18 = .ok (.getfield 21, 3) := by decide +kernel
theorem d_B_know_21 : decode c_B_know 21 = .ok (.iload_n 1, 1) := by decide +kernel
theorem d_B_know_22 : decode c_B_know 22 = .ok (.iconst 1, 1) := by decide +kernel
theorem d_B_know_23 : decode c_B_know 23 = .ok (.bastore, 1) := by decide +kernel
theorem d_B_know_24 : decode c_B_know 24 = .ok (.aload_n 0, 1) := by decide +kernel
theorem d_B_know_25 : decode c_B_know 25 = .ok (.dup, 1) := by decide +kernel
theorem d_B_know_26 : decode c_B_know 26 = .ok (.getfield 32, 3) := by decide +kernel
theorem d_B_know_29 : decode c_B_know 29 = .ok (.iconst 1, 1) := by decide +kernel
theorem d_B_know_30 : decode c_B_know 30 = .ok (.iadd, 1) := by decide +kernel
theorem d_B_know_31 : decode c_B_know 31 = .ok (.putfield 32, 3) := by decide +kernel
theorem d_B_know_34 : decode c_B_know 34 = .ok (.return_, 1) := by decide +kernel
theorem d_B_knowAll_0 : decode c_B_knowAll 0 = .ok (.iconst 0, 1) := by decide +kernel
theorem d_B_knowAll_1 : decode c_B_knowAll 1 = .ok (.istore_n 1, 1) := by decide +kernel
theorem d_B_knowAll_2 : decode c_B_knowAll 2 = .ok (.iload_n 1, 1) := by decide +kernel
theorem d_B_knowAll_3 : decode c_B_knowAll 3 = .ok (.aload_n 0, 1) := by decide +kernel
theorem d_B_knowAll_4 : decode c_B_knowAll 4 = .ok (.getfield 28, 3) := by decide +kernel
theorem d_B_knowAll_7 : decode c_B_knowAll 7 = .ok (.if_icmp .ge 14, 3) := by decide +kernel
theorem d_B_knowAll_10 : decode c_B_knowAll 10 = .ok (.aload_n 0, 1) := by decide +kernel
theorem d_B_knowAll_11 : decode c_B_knowAll 11 = .ok (.iload_n 1, 1) := by decide +kernel
theorem d_B_knowAll_12 : decode c_B_knowAll 12 = .ok (.invokevirtual 45, 3) := by decide +kernel
theorem d_B_knowAll_15 : decode c_B_knowAll 15 = .ok (.iinc 1 1, 3) := by decide +kernel
theorem d_B_knowAll_18 : decode c_B_knowAll 18 = .ok (.goto (-16), 3) := by decide +kernel
theorem d_B_knowAll_21 : decode c_B_knowAll 21 = .ok (.return_, 1) := by decide +kernel
theorem d_B_changeRow_0 : decode c_B_changeRow 0 = .ok (.aload_n 0, 1) := by decide +kernel
theorem d_B_changeRow_1 : decode c_B_changeRow 1 = .ok (.iload_n 1, 1) := by decide +kernel
theorem d_B_changeRow_2 : decode c_B_changeRow 2 = .ok (.invokevirtual 41, 3) := by decide +kernel
theorem d_B_changeRow_5 : decode c_B_changeRow 5 = .ok (.ifCond .eq 40, 3) := by decide +kernel
theorem d_B_changeRow_8 : decode c_B_changeRow 8 = .ok (.aload_n 0, 1) := by decide +kernel
theorem d_B_changeRow_9 : decode c_B_changeRow 9 = .ok (.aload_n 0, 1) := by decide +kernel
theorem d_B_changeRow_10 : decode c_B_changeRow 10 = .ok (.getfield 49, 3) := by decide +kernel
theorem d_B_changeRow_13 : decode c_B_changeRow 13 = .ok (.ifCond .ne 12, 3) := by decide +kernel
theorem d_B_changeRow_16 : decode c_B_changeRow 16 = .ok (.aload_n 0, 1) := by decide +kernel
theorem d_B_changeRow_17 : decode c_B_changeRow 17 = .ok (.getfield 21, 3) := by decide +kernel
theorem d_B_changeRow_20 : decode c_B_changeRow 20 = .ok (.iload_n 1, 1) := by decide +kernel
theorem d_B_changeRow_21 : decode c_B_changeRow 21 = .ok (.baload, 1) := by decide +kernel
theorem d_B_changeRow_22 : decode c_B_changeRow 22 = .ok (.ifCond .ne 7, 3) := by decide +kernel
theorem d_B_changeRow_25 : decode c_B_changeRow 25 = .ok (.iconst 1, 1) := by decide +kernel
theorem d_B_changeRow_26 : decode c_B_changeRow 26 = .ok (.goto 4, 3) := by decide +kernel
theorem d_B_changeRow_29 : decode c_B_changeRow 29 = .ok (.iconst 0, 1) := by decide +kernel
theorem d_B_changeRow_30 : decode c_B_changeRow 30 = .ok (.putfield 49, 3) := by decide +kernel
theorem d_B_changeRow_33 : decode c_B_changeRow 33 = .ok (.aload_n 0, 1) := by decide +kernel
theorem d_B_changeRow_34 : decode c_B_changeRow 34 = .ok (.iload_n 1, 1) := by decide +kernel
theorem d_B_changeRow_35 : decode c_B_changeRow 35 = .ok (.invokevirtual 45, 3) := by decide +kernel
theorem d_B_changeRow_38 : decode c_B_changeRow 38 = .ok (.aload_n 0, 1) := by decide +kernel
theorem d_B_changeRow_39 : decode c_B_changeRow 39 = .ok (.getfield 18, 3) := by decide +kernel
theorem d_B_changeRow_42 : decode c_B_changeRow 42 = .ok (.iload_n 1, 1) := by decide +kernel
theorem d_B_changeRow_43 : decode c_B_changeRow 43 = .ok (.iload_n 2, 1) := by decide +kernel
theorem d_B_changeRow_44 : decode c_B_changeRow 44 = .ok (.iastore, 1) := by decide +kernel
theorem d_B_changeRow_45 : decode c_B_changeRow 45 = .ok (.return_, 1) := by decide +kernel
theorem d_B_measure_0 : decode c_B_measure 0 = .ok (.aload_n 0, 1) := by decide +kernel
theorem d_B_measure_1 : decode c_B_measure 1 = .ok (.aload_n 0, 1) := by decide +kernel
theorem d_B_measure_2 : decode c_B_measure 2 = .ok (.getfield 28, 3) := by decide +kernel
theorem d_B_measure_5 : decode c_B_measure 5 = .ok (.ifCond .le 12, 3) := by decide +kernel
theorem d_B_measure_8 : decode c_B_measure 8 = .ok (.aload_n 0, 1) := by decide +kernel
theorem d_B_measure_9 : decode c_B_measure 9 = .ok (.getfield 18, 3) := by decide +kernel
theorem d_B_measure_12 : decode c_B_measure 12 = .ok (.iconst 0, 1) := by decide +kernel
theorem d_B_measure_13 : decode c_B_measure 13 = .ok (.iaload, 1) := by decide +kernel
theorem d_B_measure_14 : decode c_B_measure 14 = .ok (.goto 4, 3) := by decide +kernel
theorem d_B_measure_17 : decode c_B_measure 17 = .ok (.iconst 0, 1) := by decide +kernel
theorem d_B_measure_18 : decode c_B_measure 18 = .ok (.putfield 53, 3) := by decide +kernel
theorem d_B_measure_21 : decode c_B_measure 21 = .ok (.aload_n 0, 1) := by decide +kernel
theorem d_B_measure_22 : decode c_B_measure 22 = .ok (.aload_n 0, 1) := by decide +kernel
theorem d_B_measure_23 : decode c_B_measure 23 = .ok (.getfield 53, 3) := by decide +kernel
theorem d_B_measure_26 : decode c_B_measure 26 = .ok (.putfield 56, 3) := by decide +kernel
theorem d_B_measure_29 : decode c_B_measure 29 = .ok (.iconst 1, 1) := by decide +kernel
theorem d_B_measure_30 : decode c_B_measure 30 = .ok (.istore_n 2, 1) := by decide +kernel
theorem d_B_measure_31 : decode c_B_measure 31 = .ok (.iload_n 2, 1) := by decide +kernel
theorem d_B_measure_32 : decode c_B_measure 32 = .ok (.aload_n 0, 1) := by decide +kernel
theorem d_B_measure_33 : decode c_B_measure 33 = .ok (.getfield 28, 3) := by decide +kernel
theorem d_B_measure_36 : decode c_B_measure 36 = .ok (.if_icmp .ge 43, 3) := by decide +kernel
theorem d_B_measure_39 : decode c_B_measure 39 = .ok (.aload_n 0, 1) := by decide +kernel
theorem d_B_measure_40 : decode c_B_measure 40 = .ok (.aload_n 0, 1) := by decide +kernel
theorem d_B_measure_41 : decode c_B_measure 41 = .ok (.getfield 53, 3) := by decide +kernel
theorem d_B_measure_44 : decode c_B_measure 44 = .ok (.aload_n 0, 1) := by decide +kernel
theorem d_B_measure_45 : decode c_B_measure 45 = .ok (.getfield 18, 3) := by decide +kernel
theorem d_B_measure_48 : decode c_B_measure 48 = .ok (.iload_n 2, 1) := by decide +kernel
theorem d_B_measure_49 : decode c_B_measure 49 = .ok (.iaload, 1) := by decide +kernel
theorem d_B_measure_50 : decode c_B_measure 50 = .ok (.invokestatic 59, 3) := by decide +kernel
theorem d_B_measure_53 : decode c_B_measure 53 = .ok (.putfield 53, 3) := by decide +kernel
theorem d_B_measure_56 : decode c_B_measure 56 = .ok (.aload_n 0, 1) := by decide +kernel
theorem d_B_measure_57 : decode c_B_measure 57 = .ok (.aload_n 0, 1) := by decide +kernel
theorem d_B_measure_58 : decode c_B_measure 58 = .ok (.getfield 56, 3) := by decide +kernel
theorem d_B_measure_61 : decode c_B_measure 61 = .ok (.aload_n 0, 1) := by decide +kernel
theorem d_B_measure_62 : decode c_B_measure 62 = .ok (.getfield 18, 3) := by decide +kernel
theorem d_B_measure_65 : decode c_B_measure 65 = .ok (.iload_n 2, 1) := by decide +kernel
theorem d_B_measure_66 : decode c_B_measure 66 = .ok (.iaload, 1) := by decide +kernel
theorem d_B_measure_67 : decode c_B_measure 67 = .ok (.invokestatic 65, 3) := by decide +kernel
theorem d_B_measure_70 : decode c_B_measure 70 = .ok (.putfield 56, 3) := by decide +kernel
theorem d_B_measure_73 : decode c_B_measure 73 = .ok (.iinc 2 1, 3) := by decide +kernel
theorem d_B_measure_76 : decode c_B_measure 76 = .ok (.goto (-45), 3) := by decide +kernel
theorem d_B_measure_79 : decode c_B_measure 79 = .ok (.aload_n 0, 1) := by decide +kernel
theorem d_B_measure_80 : decode c_B_measure 80 = .ok (.aload_n 0, 1) := by decide +kernel
theorem d_B_measure_81 : decode c_B_measure 81 = .ok (.getfield 53, 3) := by decide +kernel
theorem d_B_measure_84 : decode c_B_measure 84 = .ok (.iload_n 1, 1) := by decide +kernel
theorem d_B_measure_85 : decode c_B_measure 85 = .ok (.ineg, 1) := by decide +kernel
theorem d_B_measure_86 : decode c_B_measure 86 = .ok (.invokestatic 65, 3) := by decide +kernel
theorem d_B_measure_89 : decode c_B_measure 89 = .ok (.putfield 68, 3) := by decide +kernel
theorem d_B_measure_92 : decode c_B_measure 92 = .ok (.aload_n 0, 1) := by decide +kernel
theorem d_B_measure_93 : decode c_B_measure 93 = .ok (.aload_n 0, 1) := by decide +kernel
theorem d_B_measure_94 : decode c_B_measure 94 = .ok (.getfield 56, 3) := by decide +kernel
theorem d_B_measure_97 : decode c_B_measure 97 = .ok (.iload_n 1, 1) := by decide +kernel
theorem d_B_measure_98 : decode c_B_measure 98 = .ok (.invokestatic 59, 3) := by decide +kernel
theorem d_B_measure_101 : decode c_B_measure 101 = .ok (.putfield 71, 3) := by decide +kernel
theorem d_B_measure_104 : decode c_B_measure 104 = .ok (.aload_n 0, 1) := by decide +kernel
theorem d_B_measure_105 : decode c_B_measure 105 = .ok (.aload_n 0, 1) := by decide +kernel
theorem d_B_measure_106 : decode c_B_measure 106 = .ok (.aload_n 0, 1) := by decide +kernel
theorem d_B_measure_107 : decode c_B_measure 107 = .ok (.getfield 53, 3) := by decide +kernel
theorem d_B_measure_110 : decode c_B_measure 110 = .ok (.invokevirtual 74, 3) := by decide +kernel
theorem d_B_measure_113 : decode c_B_measure 113 = .ok (.putfield 77, 3) := by decide +kernel
theorem d_B_measure_116 : decode c_B_measure 116 = .ok (.aload_n 0, 1) := by decide +kernel
theorem d_B_measure_117 : decode c_B_measure 117 = .ok (.aload_n 0, 1) := by decide +kernel
theorem d_B_measure_118 : decode c_B_measure 118 = .ok (.aload_n 0, 1) := by decide +kernel
theorem d_B_measure_119 : decode c_B_measure 119 = .ok (.getfield 56, 3) := by decide +kernel
theorem d_B_measure_122 : decode c_B_measure 122 = .ok (.invokevirtual 74, 3) := by decide +kernel
theorem d_B_measure_125 : decode c_B_measure 125 = .ok (.putfield 80, 3) := by decide +kernel
theorem d_B_measure_128 : decode c_B_measure 128 = .ok (.aload_n 0, 1) := by decide +kernel
theorem d_B_measure_129 : decode c_B_measure 129 = .ok (.iconst 0, 1) := by decide +kernel
theorem d_B_measure_130 : decode c_B_measure 130 = .ok (.putfield 49, 3) := by decide +kernel
theorem d_B_measure_133 : decode c_B_measure 133 = .ok (.return_, 1) := by decide +kernel
theorem d_B_fact_0 : decode c_B_fact 0 = .ok (.iload_n 1, 1) := by decide +kernel
theorem d_B_fact_1 : decode c_B_fact 1 = .ok (.tableswitch 130 0 7 #[47, 52, 57, 62, 72, 88, 104, 117], 47) := by decide +kernel
theorem d_B_fact_48 : decode c_B_fact 48 = .ok (.aload_n 0, 1) := by decide +kernel
theorem d_B_fact_49 : decode c_B_fact 49 = .ok (.getfield 28, 3) := by decide +kernel
theorem d_B_fact_52 : decode c_B_fact 52 = .ok (.ireturn, 1) := by decide +kernel
theorem d_B_fact_53 : decode c_B_fact 53 = .ok (.aload_n 0, 1) := by decide +kernel
theorem d_B_fact_54 : decode c_B_fact 54 = .ok (.getfield 53, 3) := by decide +kernel
theorem d_B_fact_57 : decode c_B_fact 57 = .ok (.ireturn, 1) := by decide +kernel
theorem d_B_fact_58 : decode c_B_fact 58 = .ok (.aload_n 0, 1) := by decide +kernel
theorem d_B_fact_59 : decode c_B_fact 59 = .ok (.getfield 56, 3) := by decide +kernel
theorem d_B_fact_62 : decode c_B_fact 62 = .ok (.ireturn, 1) := by decide +kernel
theorem d_B_fact_63 : decode c_B_fact 63 = .ok (.aload_n 0, 1) := by decide +kernel
theorem d_B_fact_64 : decode c_B_fact 64 = .ok (.getfield 28, 3) := by decide +kernel
theorem d_B_fact_67 : decode c_B_fact 67 = .ok (.aload_n 0, 1) := by decide +kernel
theorem d_B_fact_68 : decode c_B_fact 68 = .ok (.getfield 32, 3) := by decide +kernel
theorem d_B_fact_71 : decode c_B_fact 71 = .ok (.isub, 1) := by decide +kernel
theorem d_B_fact_72 : decode c_B_fact 72 = .ok (.ireturn, 1) := by decide +kernel
theorem d_B_fact_73 : decode c_B_fact 73 = .ok (.aload_n 0, 1) := by decide +kernel
theorem d_B_fact_74 : decode c_B_fact 74 = .ok (.invokevirtual 83, 3) := by decide +kernel
theorem d_B_fact_77 : decode c_B_fact 77 = .ok (.ifCond .eq 10, 3) := by decide +kernel
theorem d_B_fact_80 : decode c_B_fact 80 = .ok (.aload_n 0, 1) := by decide +kernel
theorem d_B_fact_81 : decode c_B_fact 81 = .ok (.getfield 68, 3) := by decide +kernel
theorem d_B_fact_84 : decode c_B_fact 84 = .ok (.goto 4, 3) := by decide +kernel
theorem d_B_fact_87 : decode c_B_fact 87 = .ok (.iconst 0, 1) := by decide +kernel
theorem d_B_fact_88 : decode c_B_fact 88 = .ok (.ireturn, 1) := by decide +kernel
theorem d_B_fact_89 : decode c_B_fact 89 = .ok (.aload_n 0, 1) := by decide +kernel
theorem d_B_fact_90 : decode c_B_fact 90 = .ok (.invokevirtual 83, 3) := by decide +kernel
theorem d_B_fact_93 : decode c_B_fact 93 = .ok (.ifCond .eq 10, 3) := by decide +kernel
theorem d_B_fact_96 : decode c_B_fact 96 = .ok (.aload_n 0, 1) := by decide +kernel
theorem d_B_fact_97 : decode c_B_fact 97 = .ok (.getfield 71, 3) := by decide +kernel
theorem d_B_fact_100 : decode c_B_fact 100 = .ok (.goto 4, 3) := by decide +kernel
theorem d_B_fact_103 : decode c_B_fact 103 = .ok (.iconst 0, 1) := by decide +kernel
theorem d_B_fact_104 : decode c_B_fact 104 = .ok (.ireturn, 1) := by decide +kernel
theorem d_B_fact_105 : decode c_B_fact 105 = .ok (.aload_n 0, 1) := by decide +kernel
theorem d_B_fact_106 : decode c_B_fact 106 = .ok (.invokevirtual 87, 3) := by decide +kernel
theorem d_B_fact_109 : decode c_B_fact 109 = .ok (.ifCond .eq 7, 3) := by decide +kernel
theorem d_B_fact_112 : decode c_B_fact 112 = .ok (.iconst 1, 1) := by decide +kernel
theorem d_B_fact_113 : decode c_B_fact 113 = .ok (.goto 4, 3) := by decide +kernel
theorem d_B_fact_116 : decode c_B_fact 116 = .ok (.iconst 0, 1) := by decide +kernel
theorem d_B_fact_117 : decode c_B_fact 117 = .ok (.ireturn, 1) := by decide +kernel
theorem d_B_fact_118 : decode c_B_fact 118 = .ok (.aload_n 0, 1) := by decide +kernel
theorem d_B_fact_119 : decode c_B_fact 119 = .ok (.invokevirtual 90, 3) := by decide +kernel
theorem d_B_fact_122 : decode c_B_fact 122 = .ok (.ifCond .eq 7, 3) := by decide +kernel
theorem d_B_fact_125 : decode c_B_fact 125 = .ok (.iconst 1, 1) := by decide +kernel
theorem d_B_fact_126 : decode c_B_fact 126 = .ok (.goto 4, 3) := by decide +kernel
theorem d_B_fact_129 : decode c_B_fact 129 = .ok (.iconst 0, 1) := by decide +kernel
theorem d_B_fact_130 : decode c_B_fact 130 = .ok (.ireturn, 1) := by decide +kernel
theorem d_B_fact_131 : decode c_B_fact 131 = .ok (.aload_n 0, 1) := by decide +kernel
theorem d_B_fact_132 : decode c_B_fact 132 = .ok (.iload_n 1, 1) := by decide +kernel
theorem d_B_fact_133 : decode c_B_fact 133 = .ok (.bipush 10, 2) := by decide +kernel
theorem d_B_fact_135 : decode c_B_fact 135 = .ok (.isub, 1) := by decide +kernel
theorem d_B_fact_136 : decode c_B_fact 136 = .ok (.invokevirtual 93, 3) := by decide +kernel
theorem d_B_fact_139 : decode c_B_fact 139 = .ok (.ireturn, 1) := by decide +kernel
theorem d_B_sumEnd_0 : decode c_B_sumEnd 0 = .ok (.iconst 0, 1) := by decide +kernel
theorem d_B_sumEnd_1 : decode c_B_sumEnd 1 = .ok (.istore_n 3, 1) := by decide +kernel
theorem d_B_sumEnd_2 : decode c_B_sumEnd 2 = .ok (.iconst 0, 1) := by decide +kernel
theorem d_B_sumEnd_3 : decode c_B_sumEnd 3 = .ok (.istore 4, 2) := by decide +kernel
theorem d_B_sumEnd_5 : decode c_B_sumEnd 5 = .ok (.iconst 0, 1) := by decide +kernel
theorem d_B_sumEnd_6 : decode c_B_sumEnd 6 = .ok (.istore 5, 2) := by decide +kernel
theorem d_B_sumEnd_8 : decode c_B_sumEnd 8 = .ok (.iload 5, 2) := by decide +kernel
theorem d_B_sumEnd_10 : decode c_B_sumEnd 10 = .ok (.aload_n 0, 1) := by decide +kernel
theorem d_B_sumEnd_11 : decode c_B_sumEnd 11 = .ok (.getfield 28, 3) := by decide +kernel
theorem d_B_sumEnd_14 : decode c_B_sumEnd 14 = .ok (.if_icmp .ge 51, 3) := by decide +kernel
theorem d_B_sumEnd_17 : decode c_B_sumEnd 17 = .ok (.iload_n 1, 1) := by decide +kernel
theorem d_B_sumEnd_18 : decode c_B_sumEnd 18 = .ok (.iconst (-1), 1) := by decide +kernel
theorem d_B_sumEnd_19 : decode c_B_sumEnd 19 = .ok (.if_icmp .eq 14, 3) := by decide +kernel
theorem d_B_sumEnd_22 : decode c_B_sumEnd 22 = .ok (.aload_n 0, 1) := by decide +kernel
theorem d_B_sumEnd_23 : decode c_B_sumEnd 23 = .ok (.getfield 15, 3) := by decide +kernel
theorem d_B_sumEnd_26 : decode c_B_sumEnd 26 = .ok (.iload 5, 2) := by decide +kernel
theorem d_B_sumEnd_28 : decode c_B_sumEnd 28 = .ok (.iaload, 1) := by decide +kernel
theorem d_B_sumEnd_29 : decode c_B_sumEnd 29 = .ok (.iload_n 1, 1) := by decide +kernel
theorem d_B_sumEnd_30 : decode c_B_sumEnd 30 = .ok (.if_icmp .ne 29, 3) := by decide +kernel
theorem d_B_sumEnd_33 : decode c_B_sumEnd 33 = .ok (.aload_n 0, 1) := by decide +kernel
theorem d_B_sumEnd_34 : decode c_B_sumEnd 34 = .ok (.getfield 21, 3) := by decide +kernel
theorem d_B_sumEnd_37 : decode c_B_sumEnd 37 = .ok (.iload 5, 2) := by decide +kernel
theorem d_B_sumEnd_39 : decode c_B_sumEnd 39 = .ok (.baload, 1) := by decide +kernel
theorem d_B_sumEnd_40 : decode c_B_sumEnd 40 = .ok (.ifCond .eq 16, 3) := by decide +kernel
theorem d_B_sumEnd_43 : decode c_B_sumEnd 43 = .ok (.iload_n 3, 1) := by decide +kernel
theorem d_B_sumEnd_44 : decode c_B_sumEnd 44 = .ok (.aload_n 0, 1) := by decide +kernel
theorem d_B_sumEnd_45 : decode c_B_sumEnd 45 = .ok (.getfield 18, 3) := by decide +kernel
theorem d_B_sumEnd_48 : decode c_B_sumEnd 48 = .ok (.iload 5, 2) := by decide +kernel
theorem d_B_sumEnd_50 : decode c_B_sumEnd 50 = .ok (.iaload, 1) := by decide +kernel
theorem d_B_sumEnd_51 : decode c_B_sumEnd 51 = .ok (.iadd, 1) := by decide +kernel
theorem d_B_sumEnd_52 : decode c_B_sumEnd 52 = .ok (.istore_n 3, 1) := by decide +kernel
theorem d_B_sumEnd_53 : decode c_B_sumEnd 53 = .ok (.goto 6, 3) := by decide +kernel
theorem d_B_sumEnd_56 : decode c_B_sumEnd 56 = .ok (.iinc 4 1, 3) := by decide +kernel
theorem d_B_sumEnd_59 : decode c_B_sumEnd 59 = .ok (.iinc 5 1, 3) := by decide +kernel
theorem d_B_sumEnd_62 : decode c_B_sumEnd 62 = .ok (.goto (-54), 3) := by decide +kernel
theorem d_B_sumEnd_65 : decode c_B_sumEnd 65 = .ok (.iload 4, 2) := by decide +kernel
theorem d_B_sumEnd_67 : decode c_B_sumEnd 67 = .ok (.ifCond .ne 8, 3) := by decide +kernel
theorem d_B_sumEnd_70 : decode c_B_sumEnd 70 = .ok (.iload_n 3, 1) := by decide +kernel
theorem d_B_sumEnd_71 : decode c_B_sumEnd 71 = .ok (.i2l, 1) := by decide +kernel
theorem d_B_sumEnd_72 : decode c_B_sumEnd 72 = .ok (.goto 13, 3) := by decide +kernel
theorem d_B_sumEnd_75 : decode c_B_sumEnd 75 = .ok (.iload_n 3, 1) := by decide +kernel
theorem d_B_sumEnd_76 : decode c_B_sumEnd 76 = .ok (.aload_n 0, 1) := by decide +kernel
theorem d_B_sumEnd_77 : decode c_B_sumEnd 77 = .ok (.iload 4, 2) := by decide +kernel
theorem d_B_sumEnd_79 : decode c_B_sumEnd 79 = .ok (.iload_n 2, 1) := by decide +kernel
theorem d_B_sumEnd_80 : decode c_B_sumEnd 80 = .ok (.invokevirtual 97, 3) := by decide +kernel
theorem d_B_sumEnd_83 : decode c_B_sumEnd 83 = .ok (.iadd, 1) := by decide +kernel
theorem d_B_sumEnd_84 : decode c_B_sumEnd 84 = .ok (.i2l, 1) := by decide +kernel
theorem d_B_sumEnd_85 : decode c_B_sumEnd 85 = .ok (.lreturn, 1) := by decide +kernel
theorem d_B_apart_0 : decode c_B_apart 0 = .ok (.aload_n 0, 1) := by decide +kernel
theorem d_B_apart_1 : decode c_B_apart 1 = .ok (.iload_n 1, 1) := by decide +kernel
theorem d_B_apart_2 : decode c_B_apart 2 = .ok (.iconst 1, 1) := by decide +kernel
theorem d_B_apart_3 : decode c_B_apart 3 = .ok (.invokevirtual 100, 3) := by decide +kernel
theorem d_B_apart_6 : decode c_B_apart 6 = .ok (.aload_n 0, 1) := by decide +kernel
theorem d_B_apart_7 : decode c_B_apart 7 = .ok (.iload_n 1, 1) := by decide +kernel
theorem d_B_apart_8 : decode c_B_apart 8 = .ok (.iconst 0, 1) := by decide +kernel
theorem d_B_apart_9 : decode c_B_apart 9 = .ok (.invokevirtual 100, 3) := by decide +kernel
theorem d_B_apart_12 : decode c_B_apart 12 = .ok (.lsub, 1) := by decide +kernel
theorem d_B_apart_13 : decode c_B_apart 13 = .ok (.lreturn, 1) := by decide +kernel
theorem d_B_countEnd_0 : decode c_B_countEnd 0 = .ok (.iconst 0, 1) := by decide +kernel
theorem d_B_countEnd_1 : decode c_B_countEnd 1 = .ok (.istore_n 3, 1) := by decide +kernel
theorem d_B_countEnd_2 : decode c_B_countEnd 2 = .ok (.iconst 0, 1) := by decide +kernel
theorem d_B_countEnd_3 : decode c_B_countEnd 3 = .ok (.istore 4, 2) := by decide +kernel
theorem d_B_countEnd_5 : decode c_B_countEnd 5 = .ok (.iload 4, 2) := by decide +kernel
theorem d_B_countEnd_7 : decode c_B_countEnd 7 = .ok (.aload_n 0, 1) := by decide +kernel
theorem d_B_countEnd_8 : decode c_B_countEnd 8 = .ok (.getfield 28, 3) := by decide +kernel
theorem d_B_countEnd_11 : decode c_B_countEnd 11 = .ok (.if_icmp .ge 33, 3) := by decide +kernel
theorem d_B_countEnd_14 : decode c_B_countEnd 14 = .ok (.aload_n 0, 1) := by decide +kernel
theorem d_B_countEnd_15 : decode c_B_countEnd 15 = .ok (.getfield 21, 3) := by decide +kernel
theorem d_B_countEnd_18 : decode c_B_countEnd 18 = .ok (.iload 4, 2) := by decide +kernel
theorem d_B_countEnd_20 : decode c_B_countEnd 20 = .ok (.baload, 1) := by decide +kernel
theorem d_B_countEnd_21 : decode c_B_countEnd 21 = .ok (.ifCond .eq 17, 3) := by decide +kernel
theorem d_B_countEnd_24 : decode c_B_countEnd 24 = .ok (.aload_n 0, 1) := by decide +kernel
theorem d_B_countEnd_25 : decode c_B_countEnd 25 = .ok (.getfield 18, 3) := by decide +kernel
theorem d_B_countEnd_28 : decode c_B_countEnd 28 = .ok (.iload 4, 2) := by decide +kernel
theorem d_B_countEnd_30 : decode c_B_countEnd 30 = .ok (.iaload, 1) := by decide +kernel
theorem d_B_countEnd_31 : decode c_B_countEnd 31 = .ok (.iload_n 1, 1) := by decide +kernel
theorem d_B_countEnd_32 : decode c_B_countEnd 32 = .ok (.if_icmp .lt 6, 3) := by decide +kernel
theorem d_B_countEnd_35 : decode c_B_countEnd 35 = .ok (.iinc 3 1, 3) := by decide +kernel
theorem d_B_countEnd_38 : decode c_B_countEnd 38 = .ok (.iinc 4 1, 3) := by decide +kernel
theorem d_B_countEnd_41 : decode c_B_countEnd 41 = .ok (.goto (-36), 3) := by decide +kernel
theorem d_B_countEnd_44 : decode c_B_countEnd 44 = .ok (.aload_n 0, 1) := by decide +kernel
theorem d_B_countEnd_45 : decode c_B_countEnd 45 = .ok (.invokevirtual 83, 3) := by decide +kernel
theorem d_B_countEnd_48 : decode c_B_countEnd 48 = .ok (.ifCond .eq 14, 3) := by decide +kernel
theorem d_B_countEnd_51 : decode c_B_countEnd 51 = .ok (.iload_n 3, 1) := by decide +kernel
theorem d_B_countEnd_52 : decode c_B_countEnd 52 = .ok (.aload_n 0, 1) := by decide +kernel
theorem d_B_countEnd_53 : decode c_B_countEnd 53 = .ok (.iload_n 1, 1) := by decide +kernel
theorem d_B_countEnd_54 : decode c_B_countEnd 54 = .ok (.iload_n 2, 1) := by decide +kernel
theorem d_B_countEnd_55 : decode c_B_countEnd 55 = .ok (.invokevirtual 104, 3) := by decide +kernel
theorem d_B_countEnd_58 : decode c_B_countEnd 58 = .ok (.iadd, 1) := by decide +kernel
theorem d_B_countEnd_59 : decode c_B_countEnd 59 = .ok (.goto 4, 3) := by decide +kernel
theorem d_B_countEnd_62 : decode c_B_countEnd 62 = .ok (.iload_n 3, 1) := by decide +kernel
theorem d_B_countEnd_63 : decode c_B_countEnd 63 = .ok (.ireturn, 1) := by decide +kernel
theorem d_B_addKnownKeys_0 : decode c_B_addKnownKeys 0 = .ok (.iconst 0, 1) := by decide +kernel
theorem d_B_addKnownKeys_1 : decode c_B_addKnownKeys 1 = .ok (.istore_n 2, 1) := by decide +kernel
theorem d_B_addKnownKeys_2 : decode c_B_addKnownKeys 2 = .ok (.iload_n 2, 1) := by decide +kernel
theorem d_B_addKnownKeys_3 : decode c_B_addKnownKeys 3 = .ok (.aload_n 0, 1) := by decide +kernel
theorem d_B_addKnownKeys_4 : decode c_B_addKnownKeys 4 = .ok (.getfield 28, 3) := by decide +kernel
theorem d_B_addKnownKeys_7 : decode c_B_addKnownKeys 7 = .ok (.if_icmp .ge 42, 3) := by decide +kernel
theorem d_B_addKnownKeys_10 : decode c_B_addKnownKeys 10 = .ok (.aload_n 0, 1) := by decide +kernel
theorem d_B_addKnownKeys_11 : decode c_B_addKnownKeys 11 = .ok (.getfield 9, 3) := by decide +kernel
theorem d_B_addKnownKeys_14 : decode c_B_addKnownKeys 14 = .ok (.iload_n 2, 1) := by decide +kernel
theorem d_B_addKnownKeys_15 : decode c_B_addKnownKeys 15 = .ok (.iaload, 1) := by decide +kernel
theorem d_B_addKnownKeys_16 : decode c_B_addKnownKeys 16 = .ok (.istore_n 3, 1) := by decide +kernel
theorem d_B_addKnownKeys_17 : decode c_B_addKnownKeys 17 = .ok (.aload_n 0, 1) := by decide +kernel
theorem d_B_addKnownKeys_18 : decode c_B_addKnownKeys 18 = .ok (.getfield 21, 3) := by decide +kernel
theorem d_B_addKnownKeys_21 : decode c_B_addKnownKeys 21 = .ok (.iload_n 2, 1) := by decide +kernel
theorem d_B_addKnownKeys_22 : decode c_B_addKnownKeys 22 = .ok (.baload, 1) := by decide +kernel
theorem d_B_addKnownKeys_23 : decode c_B_addKnownKeys 23 = .ok (.ifCond .eq 20, 3) := by decide +kernel
theorem d_B_addKnownKeys_26 : decode c_B_addKnownKeys 26 = .ok (.iload_n 3, 1) := by decide +kernel
theorem d_B_addKnownKeys_27 : decode c_B_addKnownKeys 27 = .ok (.ifCond .lt 16, 3) := by decide +kernel
theorem d_B_addKnownKeys_30 : decode c_B_addKnownKeys 30 = .ok (.iload_n 3, 1) := by decide +kernel
theorem d_B_addKnownKeys_31 : decode c_B_addKnownKeys 31 = .ok (.aload_n 1, 1) := by decide +kernel
theorem d_B_addKnownKeys_32 : decode c_B_addKnownKeys 32 = .ok (.arraylength, 1) := by decide +kernel
theorem d_B_addKnownKeys_33 : decode c_B_addKnownKeys 33 = .ok (.if_icmp .ge 10, 3) := by decide +kernel
theorem d_B_addKnownKeys_36 : decode c_B_addKnownKeys 36 = .ok (.aload_n 1, 1) := by decide +kernel
theorem d_B_addKnownKeys_37 : decode c_B_addKnownKeys 37 = .ok (.iload_n 3, 1) := by decide +kernel
theorem d_B_addKnownKeys_38 : decode c_B_addKnownKeys 38 = .ok (.dup2, 1) := by decide +kernel
theorem d_B_addKnownKeys_39 : decode c_B_addKnownKeys 39 = .ok (.iaload, 1) := by decide +kernel
theorem d_B_addKnownKeys_40 : decode c_B_addKnownKeys 40 = .ok (.iconst 1, 1) := by decide +kernel
theorem d_B_addKnownKeys_41 : decode c_B_addKnownKeys 41 = .ok (.iadd, 1) := by decide +kernel
theorem d_B_addKnownKeys_42 : decode c_B_addKnownKeys 42 = .ok (.iastore, 1) := by decide +kernel
theorem d_B_addKnownKeys_43 : decode c_B_addKnownKeys 43 = .ok (.iinc 2 1, 3) := by decide +kernel
theorem d_B_addKnownKeys_46 : decode c_B_addKnownKeys 46 = .ok (.goto (-44), 3) := by decide +kernel
theorem d_B_addKnownKeys_49 : decode c_B_addKnownKeys 49 = .ok (.return_, 1) := by decide +kernel
theorem d_B_pairsWith_0 : decode c_B_pairsWith 0 = .ok (.iconst 0, 1) := by decide +kernel
theorem d_B_pairsWith_1 : decode c_B_pairsWith 1 = .ok (.istore 4, 2) := by decide +kernel
theorem d_B_pairsWith_3 : decode c_B_pairsWith 3 = .ok (.iconst 0, 1) := by decide +kernel
theorem d_B_pairsWith_4 : decode c_B_pairsWith 4 = .ok (.istore 5, 2) := by decide +kernel
theorem d_B_pairsWith_6 : decode c_B_pairsWith 6 = .ok (.iload 5, 2) := by decide +kernel
theorem d_B_pairsWith_8 : decode c_B_pairsWith 8 = .ok (.aload_n 0, 1) := by decide +kernel
theorem d_B_pairsWith_9 : decode c_B_pairsWith 9 = .ok (.getfield 28, 3) := by decide +kernel
theorem d_B_pairsWith_12 : decode c_B_pairsWith 12 = .ok (.if_icmp .ge 71, 3) := by decide +kernel
theorem d_B_pairsWith_15 : decode c_B_pairsWith 15 = .ok (.aload_n 0, 1) := by decide +kernel
theorem d_B_pairsWith_16 : decode c_B_pairsWith 16 = .ok (.getfield 9, 3) := by decide +kernel
theorem d_B_pairsWith_19 : decode c_B_pairsWith 19 = .ok (.iload 5, 2) := by decide +kernel
theorem d_B_pairsWith_21 : decode c_B_pairsWith 21 = .ok (.iaload, 1) := by decide +kernel
theorem d_B_pairsWith_22 : decode c_B_pairsWith 22 = .ok (.istore 6, 2) := by decide +kernel
theorem d_B_pairsWith_24 : decode c_B_pairsWith 24 = .ok (.aload_n 0, 1) := by decide +kernel
theorem d_B_pairsWith_25 : decode c_B_pairsWith 25 = .ok (.getfield 21, 3) := by decide +kernel
theorem d_B_pairsWith_28 : decode c_B_pairsWith 28 = .ok (.iload 5, 2) := by decide +kernel
theorem d_B_pairsWith_30 : decode c_B_pairsWith 30 = .ok (.baload, 1) := by decide +kernel
theorem d_B_pairsWith_31 : decode c_B_pairsWith 31 = .ok (.ifCond .eq 17, 3) := by decide +kernel
theorem d_B_pairsWith_34 : decode c_B_pairsWith 34 = .ok (.iload 6, 2) := by decide +kernel
theorem d_B_pairsWith_36 : decode c_B_pairsWith 36 = .ok (.iload_n 2, 1) := by decide +kernel
theorem d_B_pairsWith_37 : decode c_B_pairsWith 37 = .ok (.iload_n 3, 1) := by decide +kernel
theorem d_B_pairsWith_38 : decode c_B_pairsWith 38 = .ok (.invokestatic 107, 3) := by decide +kernel
theorem d_B_pairsWith_41 : decode c_B_pairsWith 41 = .ok (.ifCond .eq 7, 3) := by decide +kernel
theorem d_B_pairsWith_44 : decode c_B_pairsWith 44 = .ok (.iconst 1, 1) := by decide +kernel
theorem d_B_pairsWith_45 : decode c_B_pairsWith 45 = .ok (.goto 4, 3) := by decide +kernel
theorem d_B_pairsWith_48 : decode c_B_pairsWith 48 = .ok (.iconst 0, 1) := by decide +kernel
theorem d_B_pairsWith_49 : decode c_B_pairsWith 49 = .ok (.istore 7, 2) := by decide +kernel
theorem d_B_pairsWith_51 : decode c_B_pairsWith 51 = .ok (.iload 7, 2) := by decide +kernel
theorem d_B_pairsWith_53 : decode c_B_pairsWith 53 = .ok (.ifCond .eq 24, 3) := by decide +kernel
theorem d_B_pairsWith_56 : decode c_B_pairsWith 56 = .ok (.iload 6, 2) := by decide +kernel
theorem d_B_pairsWith_58 : decode c_B_pairsWith 58 = .ok (.ifCond .lt 19, 3) := by decide +kernel
theorem d_B_pairsWith_61 : decode c_B_pairsWith 61 = .ok (.iload 6, 2) := by decide +kernel
theorem d_B_pairsWith_63 : decode c_B_pairsWith 63 = .ok (.aload_n 1, 1) := by decide +kernel
theorem d_B_pairsWith_64 : decode c_B_pairsWith 64 = .ok (.arraylength, 1) := by decide +kernel
theorem d_B_pairsWith_65 : decode c_B_pairsWith 65 = .ok (.if_icmp .ge 12, 3) := by decide +kernel
theorem d_B_pairsWith_68 : decode c_B_pairsWith 68 = .ok (.iload 4, 2) := by decide +kernel
theorem d_B_pairsWith_70 : decode c_B_pairsWith 70 = .ok (.aload_n 1, 1) := by decide +kernel
theorem d_B_pairsWith_71 : decode c_B_pairsWith 71 = .ok (.iload 6, 2) := by decide +kernel
theorem d_B_pairsWith_73 : decode c_B_pairsWith 73 = .ok (.iaload, 1) := by decide +kernel
theorem d_B_pairsWith_74 : decode c_B_pairsWith 74 = .ok (.iadd, 1) := by decide +kernel
theorem d_B_pairsWith_75 : decode c_B_pairsWith 75 = .ok (.istore 4, 2) := by decide +kernel
theorem d_B_pairsWith_77 : decode c_B_pairsWith 77 = .ok (.iinc 5 1, 3) := by decide +kernel
theorem d_B_pairsWith_80 : decode c_B_pairsWith 80 = .ok (.goto (-74), 3) := by decide +kernel
theorem d_B_pairsWith_83 : decode c_B_pairsWith 83 = .ok (.iload 4, 2) := by decide +kernel
theorem d_B_pairsWith_85 : decode c_B_pairsWith 85 = .ok (.ireturn, 1) := by decide +kernel
theorem d_B_writeKnown_0 : decode c_B_writeKnown 0 = .ok (.aload_n 1, 1) := by decide +kernel
theorem d_B_writeKnown_1 : decode c_B_writeKnown 1 = .ok (.getfield 111, 3) := by decide +kernel
theorem d_B_writeKnown_4 : decode c_B_writeKnown 4 = .ok (.aload_n 2, 1) := by decide +kernel
theorem d_B_writeKnown_5 : decode c_B_writeKnown 5 = .ok (.getfield 111, 3) := by decide +kernel
theorem d_B_writeKnown_8 : decode c_B_writeKnown 8 = .ok (.aload_n 3, 1) := by decide +kernel
theorem d_B_writeKnown_9 : decode c_B_writeKnown 9 = .ok (.getfield 111, 3) := by decide +kernel
theorem d_B_writeKnown_12 : decode c_B_writeKnown 12 = .ok (.invokestatic 59, 3) := by decide +kernel
theorem d_B_writeKnown_15 : decode c_B_writeKnown 15 = .ok (.invokestatic 59, 3) := by decide +kernel
theorem d_B_writeKnown_18 : decode c_B_writeKnown 18 = .ok (.istore 5, 2) := by decide +kernel
theorem d_B_writeKnown_20 : decode c_B_writeKnown 20 = .ok (.iload 4, 2) := by decide +kernel
theorem d_B_writeKnown_22 : decode c_B_writeKnown 22 = .ok (.istore 6, 2) := by decide +kernel
theorem d_B_writeKnown_24 : decode c_B_writeKnown 24 = .ok (.iconst 0, 1) := by decide +kernel
theorem d_B_writeKnown_25 : decode c_B_writeKnown 25 = .ok (.istore 7, 2) := by decide +kernel
theorem d_B_writeKnown_27 : decode c_B_writeKnown 27 = .ok (.iload 7, 2) := by decide +kernel
theorem d_B_writeKnown_29 : decode c_B_writeKnown 29 = .ok (.aload_n 0, 1) := by decide +kernel
theorem d_B_writeKnown_30 : decode c_B_writeKnown 30 = .ok (.getfield 28, 3) := by decide +kernel
theorem d_B_writeKnown_33 : decode c_B_writeKnown 33 = .ok (.if_icmp .ge 68, 3) := by decide +kernel
theorem d_B_writeKnown_36 : decode c_B_writeKnown 36 = .ok (.iload 6, 2) := by decide +kernel
theorem d_B_writeKnown_38 : decode c_B_writeKnown 38 = .ok (.iload 5, 2) := by decide +kernel
theorem d_B_writeKnown_40 : decode c_B_writeKnown 40 = .ok (.if_icmp .ge 61, 3) := by decide +kernel
theorem d_B_writeKnown_43 : decode c_B_writeKnown 43 = .ok (.aload_n 0, 1) := by decide +kernel
theorem d_B_writeKnown_44 : decode c_B_writeKnown 44 = .ok (.getfield 21, 3) := by decide +kernel
theorem d_B_writeKnown_47 : decode c_B_writeKnown 47 = .ok (.iload 7, 2) := by decide +kernel
theorem d_B_writeKnown_49 : decode c_B_writeKnown 49 = .ok (.baload, 1) := by decide +kernel
theorem d_B_writeKnown_50 : decode c_B_writeKnown 50 = .ok (.ifCond .eq 45, 3) := by decide +kernel
theorem d_B_writeKnown_53 : decode c_B_writeKnown 53 = .ok (.aload_n 1, 1) := by decide +kernel
theorem d_B_writeKnown_54 : decode c_B_writeKnown 54 = .ok (.iload 6, 2) := by decide +kernel
theorem d_B_writeKnown_56 : decode c_B_writeKnown 56 = .ok (.aload_n 0, 1) := by decide +kernel
theorem d_B_writeKnown_57 : decode c_B_writeKnown 57 = .ok (.getfield 9, 3) := by decide +kernel
theorem d_B_writeKnown_60 : decode c_B_writeKnown 60 = .ok (.iload 7, 2) := by decide +kernel
theorem d_B_writeKnown_62 : decode c_B_writeKnown 62 = .ok (.iaload, 1) := by decide +kernel
theorem d_B_writeKnown_63 : decode c_B_writeKnown 63 = .ok (.invokevirtual 114, 3) := by decide +kernel
theorem d_B_writeKnown_66 : decode c_B_writeKnown 66 = .ok (.aload_n 2, 1) := by decide +kernel
theorem d_B_writeKnown_67 : decode c_B_writeKnown 67 = .ok (.iload 6, 2) := by decide +kernel
theorem d_B_writeKnown_69 : decode c_B_writeKnown 69 = .ok (.aload_n 0, 1) := by decide +kernel
theorem d_B_writeKnown_70 : decode c_B_writeKnown 70 = .ok (.getfield 15, 3) := by decide +kernel
theorem d_B_writeKnown_73 : decode c_B_writeKnown 73 = .ok (.iload 7, 2) := by decide +kernel
theorem d_B_writeKnown_75 : decode c_B_writeKnown 75 = .ok (.iaload, 1) := by decide +kernel
theorem d_B_writeKnown_76 : decode c_B_writeKnown 76 = .ok (.invokevirtual 114, 3) := by decide +kernel
theorem d_B_writeKnown_79 : decode c_B_writeKnown 79 = .ok (.aload_n 3, 1) := by decide +kernel
theorem d_B_writeKnown_80 : decode c_B_writeKnown 80 = .ok (.iload 6, 2) := by decide +kernel
theorem d_B_writeKnown_82 : decode c_B_writeKnown 82 = .ok (.aload_n 0, 1) := by decide +kernel
theorem d_B_writeKnown_83 : decode c_B_writeKnown 83 = .ok (.getfield 18, 3) := by decide +kernel
theorem d_B_writeKnown_86 : decode c_B_writeKnown 86 = .ok (.iload 7, 2) := by decide +kernel
theorem d_B_writeKnown_88 : decode c_B_writeKnown 88 = .ok (.iaload, 1) := by decide +kernel
theorem d_B_writeKnown_89 : decode c_B_writeKnown 89 = .ok (.invokevirtual 114, 3) := by decide +kernel
theorem d_B_writeKnown_92 : decode c_B_writeKnown 92 = .ok (.iinc 6 1, 3) := by decide +kernel
theorem d_B_writeKnown_95 : decode c_B_writeKnown 95 = .ok (.iinc 7 1, 3) := by decide +kernel
theorem d_B_writeKnown_98 : decode c_B_writeKnown 98 = .ok (.goto (-71), 3) := by decide +kernel
theorem d_B_writeKnown_101 : decode c_B_writeKnown 101 = .ok (.iload 6, 2) := by decide +kernel
theorem d_B_writeKnown_103 : decode c_B_writeKnown 103 = .ok (.ireturn, 1) := by decide +kernel
theorem d_B_mixedInto_0 : decode c_B_mixedInto 0 = .ok (.lload_n 1, 1) := by decide +kernel
theorem d_B_mixedInto_1 : decode c_B_mixedInto 1 = .ok (.lstore_n 3, 1) := by decide +kernel
theorem d_B_mixedInto_2 : decode c_B_mixedInto 2 = .ok (.iconst 0, 1) := by decide +kernel
theorem d_B_mixedInto_3 : decode c_B_mixedInto 3 = .ok (.istore 5, 2) := by decide +kernel
theorem d_B_mixedInto_5 : decode c_B_mixedInto 5 = .ok (.iload 5, 2) := by decide +kernel
theorem d_B_mixedInto_7 : decode c_B_mixedInto 7 = .ok (.bipush 14, 2) := by decide +kernel
theorem d_B_mixedInto_9 : decode c_B_mixedInto 9 = .ok (.if_icmp .ge 29, 3) := by decide +kernel
theorem d_B_mixedInto_12 : decode c_B_mixedInto 12 = .ok (.iload 5, 2) := by decide +kernel
theorem d_B_mixedInto_14 : decode c_B_mixedInto 14 = .ok (.invokestatic 118, 3) := by decide +kernel
theorem d_B_mixedInto_17 : decode c_B_mixedInto 17 = .ok (.ifCond .eq 15, 3) := by decide +kernel
theorem d_B_mixedInto_20 : decode c_B_mixedInto 20 = .ok (.lload_n 3, 1) := by decide +kernel
theorem d_B_mixedInto_21 : decode c_B_mixedInto 21 = .ok (.aload_n 0, 1) := by decide +kernel
theorem d_B_mixedInto_22 : decode c_B_mixedInto 22 = .ok (.iload 5, 2) := by decide +kernel
theorem d_B_mixedInto_24 : decode c_B_mixedInto 24 = .ok (.invokevirtual 121, 3) := by decide +kernel
theorem d_B_mixedInto_27 : decode c_B_mixedInto 27 = .ok (.i2l, 1) := by decide +kernel
theorem d_B_mixedInto_28 : decode c_B_mixedInto 28 = .ok (.invokestatic 124, 3) := by decide +kernel
theorem d_B_mixedInto_31 : decode c_B_mixedInto 31 = .ok (.lstore_n 3, 1) := by decide +kernel
theorem d_B_mixedInto_32 : decode c_B_mixedInto 32 = .ok (.iinc 5 1, 3) := by decide +kernel
theorem d_B_mixedInto_35 : decode c_B_mixedInto 35 = .ok (.goto (-30), 3) := by decide +kernel
theorem d_B_mixedInto_38 : decode c_B_mixedInto 38 = .ok (.iconst 0, 1) := by decide +kernel
theorem d_B_mixedInto_39 : decode c_B_mixedInto 39 = .ok (.istore 5, 2) := by decide +kernel
theorem d_B_mixedInto_41 : decode c_B_mixedInto 41 = .ok (.iload 5, 2) := by decide +kernel
theorem d_B_mixedInto_43 : decode c_B_mixedInto 43 = .ok (.aload_n 0, 1) := by decide +kernel
theorem d_B_mixedInto_44 : decode c_B_mixedInto 44 = .ok (.getfield 28, 3) := by decide +kernel
theorem d_B_mixedInto_47 : decode c_B_mixedInto 47 = .ok (.if_icmp .ge 38, 3) := by decide +kernel
theorem d_B_mixedInto_50 : decode c_B_mixedInto 50 = .ok (.aload_n 0, 1) := by decide +kernel
theorem d_B_mixedInto_51 : decode c_B_mixedInto 51 = .ok (.getfield 21, 3) := by decide +kernel
theorem d_B_mixedInto_54 : decode c_B_mixedInto 54 = .ok (.iload 5, 2) := by decide +kernel
theorem d_B_mixedInto_56 : decode c_B_mixedInto 56 = .ok (.baload, 1) := by decide +kernel
theorem d_B_mixedInto_57 : decode c_B_mixedInto 57 = .ok (.ifCond .eq 22, 3) := by decide +kernel
theorem d_B_mixedInto_60 : decode c_B_mixedInto 60 = .ok (.lload_n 3, 1) := by decide +kernel
theorem d_B_mixedInto_61 : decode c_B_mixedInto 61 = .ok (.iload 5, 2) := by decide +kernel
theorem d_B_mixedInto_63 : decode c_B_mixedInto 63 = .ok (.i2l, 1) := by decide +kernel
theorem d_B_mixedInto_64 : decode c_B_mixedInto 64 = .ok (.invokestatic 124, 3) := by decide +kernel
theorem d_B_mixedInto_67 : decode c_B_mixedInto 67 = .ok (.aload_n 0, 1) := by decide +kernel
theorem d_B_mixedInto_68 : decode c_B_mixedInto 68 = .ok (.getfield 18, 3) := by decide +kernel
theorem d_B_mixedInto_71 : decode c_B_mixedInto 71 = .ok (.iload 5, 2) := by decide +kernel
theorem d_B_mixedInto_73 : decode c_B_mixedInto 73 = .ok (.iaload, 1) := by decide +kernel
theorem d_B_mixedInto_74 : decode c_B_mixedInto 74 = .ok (.i2l, 1) := by decide +kernel
theorem d_B_mixedInto_75 : decode c_B_mixedInto 75 = .ok (.invokestatic 124, 3) := by decide +kernel
theorem d_B_mixedInto_78 : decode c_B_mixedInto 78 = .ok (.lstore_n 3, 1) := by decide +kernel
theorem d_B_mixedInto_79 : decode c_B_mixedInto 79 = .ok (.iinc 5 1, 3) := by decide +kernel
theorem d_B_mixedInto_82 : decode c_B_mixedInto 82 = .ok (.goto (-41), 3) := by decide +kernel
theorem d_B_mixedInto_85 : decode c_B_mixedInto 85 = .ok (.lload_n 3, 1) := by decide +kernel
theorem d_B_mixedInto_86 : decode c_B_mixedInto 86 = .ok (.lreturn, 1) := by decide +kernel
theorem d_B_isHalf_0 : decode c_B_isHalf 0 = .ok (.aload_n 0, 1) := by decide +kernel
theorem d_B_isHalf_1 : decode c_B_isHalf 1 = .ok (.getfield 32, 3) := by decide +kernel
theorem d_B_isHalf_4 : decode c_B_isHalf 4 = .ok (.aload_n 0, 1) := by decide +kernel
theorem d_B_isHalf_5 : decode c_B_isHalf 5 = .ok (.getfield 28, 3) := by decide +kernel
theorem d_B_isHalf_8 : decode c_B_isHalf 8 = .ok (.if_icmp .ge 7, 3) := by decide +kernel
theorem d_B_isHalf_11 : decode c_B_isHalf 11 = .ok (.iconst 1, 1) := by decide +kernel
theorem d_B_isHalf_12 : decode c_B_isHalf 12 = .ok (.goto 4, 3) := by decide +kernel
theorem d_B_isHalf_15 : decode c_B_isHalf 15 = .ok (.iconst 0, 1) := by decide +kernel
theorem d_B_isHalf_16 : decode c_B_isHalf 16 = .ok (.ireturn, 1) := by decide +kernel
theorem d_B_owesLeast_0 : decode c_B_owesLeast 0 = .ok (.aload_n 0, 1) := by decide +kernel
theorem d_B_owesLeast_1 : decode c_B_owesLeast 1 = .ok (.invokevirtual 83, 3) := by decide +kernel
theorem d_B_owesLeast_4 : decode c_B_owesLeast 4 = .ok (.ifCond .eq 32, 3) := by decide +kernel
theorem d_B_owesLeast_7 : decode c_B_owesLeast 7 = .ok (.aload_n 0, 1) := by decide +kernel
theorem d_B_owesLeast_8 : decode c_B_owesLeast 8 = .ok (.getfield 77, 3) := by decide +kernel
theorem d_B_owesLeast_11 : decode c_B_owesLeast 11 = .ok (.ifCond .ne 25, 3) := by decide +kernel
theorem d_B_owesLeast_14 : decode c_B_owesLeast 14 = .ok (.aload_n 0, 1) := by decide +kernel
theorem d_B_owesLeast_15 : decode c_B_owesLeast 15 = .ok (.getfield 49, 3) := by decide +kernel
theorem d_B_owesLeast_18 : decode c_B_owesLeast 18 = .ok (.ifCond .ne 18, 3) := by decide +kernel
theorem d_B_owesLeast_21 : decode c_B_owesLeast 21 = .ok (.aload_n 0, 1) := by decide +kernel
theorem d_B_owesLeast_22 : decode c_B_owesLeast 22 = .ok (.getfield 68, 3) := by decide +kernel
theorem d_B_owesLeast_25 : decode c_B_owesLeast 25 = .ok (.aload_n 0, 1) := by decide +kernel
theorem d_B_owesLeast_26 : decode c_B_owesLeast 26 = .ok (.getfield 53, 3) := by decide +kernel
theorem d_B_owesLeast_29 : decode c_B_owesLeast 29 = .ok (.if_icmp .ne 7, 3) := by decide +kernel
theorem d_B_owesLeast_32 : decode c_B_owesLeast 32 = .ok (.iconst 1, 1) := by decide +kernel
theorem d_B_owesLeast_33 : decode c_B_owesLeast 33 = .ok (.goto 4, 3) := by decide +kernel
theorem d_B_owesLeast_36 : decode c_B_owesLeast 36 = .ok (.iconst 0, 1) := by decide +kernel
theorem d_B_owesLeast_37 : decode c_B_owesLeast 37 = .ok (.ireturn, 1) := by decide +kernel
theorem d_B_owesGreatest_0 : decode c_B_owesGreatest 0 = .ok (.aload_n 0, 1) := by decide +kernel
theorem d_B_owesGreatest_1 : decode c_B_owesGreatest 1 = .ok (.invokevirtual 83, 3) := by decide +kernel
theorem d_B_owesGreatest_4 : decode c_B_owesGreatest 4 = .ok (.ifCond .eq 32, 3) := by decide +kernel
theorem d_B_owesGreatest_7 : decode c_B_owesGreatest 7 = .ok (.aload_n 0, 1) := by decide +kernel
theorem d_B_owesGreatest_8 : decode c_B_owesGreatest 8 = .ok (.getfield 80, 3) := by decide +kernel
theorem d_B_owesGreatest_11 : decode c_B_owesGreatest 11 = .ok (.ifCond .ne 25, 3) := by decide +kernel
theorem d_B_owesGreatest_14 : decode c_B_owesGreatest 14 = .ok (.aload_n 0, 1) := by decide +kernel
theorem d_B_owesGreatest_15 : decode c_B_owesGreatest 15 = .ok (.getfield 49, 3) := by decide +kernel
theorem d_B_owesGreatest_18 : decode c_B_owesGreatest 18 = .ok (.ifCond .ne 18, 3) := by decide +kernel
theorem d_B_owesGreatest_21 : decode c_B_owesGreatest 21 = .ok (.aload_n 0, 1) := by decide +kernel
theorem d_B_owesGreatest_22 : decode c_B_owesGreatest 22 = .ok (.getfield 71, 3) := by decide +kernel
theorem d_B_owesGreatest_25 : decode c_B_owesGreatest 25 = .ok (.aload_n 0, 1) := by decide +kernel
theorem d_B_owesGreatest_26 : decode c_B_owesGreatest 26 = .ok (.getfield 56, 3) := by decide +kernel
theorem d_B_owesGreatest_29 : decode c_B_owesGreatest 29 = .ok (.if_icmp .ne 7, 3) := by decide +kernel
theorem d_B_owesGreatest_32 : decode c_B_owesGreatest 32 = .ok (.iconst 1, 1) := by decide +kernel
theorem d_B_owesGreatest_33 : decode c_B_owesGreatest 33 = .ok (.goto 4, 3) := by decide +kernel
theorem d_B_owesGreatest_36 : decode c_B_owesGreatest 36 = .ok (.iconst 0, 1) := by decide +kernel
theorem d_B_owesGreatest_37 : decode c_B_owesGreatest 37 = .ok (.ireturn, 1) := by decide +kernel
theorem d_B_isKnownValue_0 : decode c_B_isKnownValue 0 = .ok (.iconst 0, 1) := by decide +kernel
theorem d_B_isKnownValue_1 : decode c_B_isKnownValue 1 = .ok (.istore_n 2, 1) := by decide +kernel
theorem d_B_isKnownValue_2 : decode c_B_isKnownValue 2 = .ok (.iload_n 2, 1) := by decide +kernel
theorem d_B_isKnownValue_3 : decode c_B_isKnownValue 3 = .ok (.aload_n 0, 1) := by decide +kernel
theorem d_B_isKnownValue_4 : decode c_B_isKnownValue 4 = .ok (.getfield 28, 3) := by decide +kernel
theorem d_B_isKnownValue_7 : decode c_B_isKnownValue 7 = .ok (.if_icmp .ge 30, 3) := by decide +kernel
theorem d_B_isKnownValue_10 : decode c_B_isKnownValue 10 = .ok (.aload_n 0, 1) := by decide +kernel
theorem d_B_isKnownValue_11 : decode c_B_isKnownValue 11 = .ok (.getfield 21, 3) := by decide +kernel
theorem d_B_isKnownValue_14 : decode c_B_isKnownValue 14 = .ok (.iload_n 2, 1) := by decide +kernel
theorem d_B_isKnownValue_15 : decode c_B_isKnownValue 15 = .ok (.baload, 1) := by decide +kernel
theorem d_B_isKnownValue_16 : decode c_B_isKnownValue 16 = .ok (.ifCond .eq 15, 3) := by decide +kernel
theorem d_B_isKnownValue_19 : decode c_B_isKnownValue 19 = .ok (.aload_n 0, 1) := by decide +kernel
theorem d_B_isKnownValue_20 : decode c_B_isKnownValue 20 = .ok (.getfield 18, 3) := by decide +kernel
theorem d_B_isKnownValue_23 : decode c_B_isKnownValue 23 = .ok (.iload_n 2, 1) := by decide +kernel
theorem d_B_isKnownValue_24 : decode c_B_isKnownValue 24 = .ok (.iaload, 1) := by decide +kernel
theorem d_B_isKnownValue_25 : decode c_B_isKnownValue 25 = .ok (.iload_n 1, 1) := by decide +kernel
theorem d_B_isKnownValue_26 : decode c_B_isKnownValue 26 = .ok (.if_icmp .ne 5, 3) := by decide +kernel
theorem d_B_isKnownValue_29 : decode c_B_isKnownValue 29 = .ok (.iconst 1, 1) := by decide +kernel
theorem d_B_isKnownValue_30 : decode c_B_isKnownValue 30 = .ok (.ireturn, 1) := by decide +kernel
theorem d_B_isKnownValue_31 : decode c_B_isKnownValue 31 = .ok (.iinc 2 1, 3) := by decide +kernel
theorem d_B_isKnownValue_34 : decode c_B_isKnownValue 34 = .ok (.goto (-32), 3) := by decide +kernel
theorem d_B_isKnownValue_37 : decode c_B_isKnownValue 37 = .ok (.iconst 0, 1) := by decide +kernel
theorem d_B_isKnownValue_38 : decode c_B_isKnownValue 38 = .ok (.ireturn, 1) := by decide +kernel
theorem d_B_groupSize_0 : decode c_B_groupSize 0 = .ok (.iload_n 1, 1) := by decide +kernel
theorem d_B_groupSize_1 : decode c_B_groupSize 1 = .ok (.ifCond .lt 17, 3) := by decide +kernel
theorem d_B_groupSize_4 : decode c_B_groupSize 4 = .ok (.iload_n 1, 1) := by decide +kernel
theorem d_B_groupSize_5 : decode c_B_groupSize 5 = .ok (.iconst 4, 1) := by decide +kernel
theorem d_B_groupSize_6 : decode c_B_groupSize 6 = .ok (.if_icmp .ge 12, 3) := by decide +kernel
theorem d_B_groupSize_9 : decode c_B_groupSize 9 = .ok (.aload_n 0, 1) := by decide +kernel
theorem d_B_groupSize_10 : decode c_B_groupSize 10 = .ok (.getfield 25, 3) := by decide +kernel
theorem d_B_groupSize_13 : decode c_B_groupSize 13 = .ok (.iload_n 1, 1) := by decide +kernel
theorem d_B_groupSize_14 : decode c_B_groupSize 14 = .ok (.iaload, 1) := by decide +kernel
theorem d_B_groupSize_15 : decode c_B_groupSize 15 = .ok (.goto 4, 3) := by decide +kernel
theorem d_B_groupSize_18 : decode c_B_groupSize 18 = .ok (.iconst 0, 1) := by decide +kernel
theorem d_B_groupSize_19 : decode c_B_groupSize 19 = .ok (.ireturn, 1) := by decide +kernel
theorem d_B_hiddenSumEnd_0 : decode c_B_hiddenSumEnd 0 = .ok (.iload_n 1, 1) := by decide +kernel
theorem d_B_hiddenSumEnd_1 : decode c_B_hiddenSumEnd 1 = .ok (.aload_n 0, 1) := by decide +kernel
theorem d_B_hiddenSumEnd_2 : decode c_B_hiddenSumEnd 2 = .ok (.getfield 28, 3) := by decide +kernel
theorem d_B_hiddenSumEnd_5 : decode c_B_hiddenSumEnd 5 = .ok (.aload_n 0, 1) := by decide +kernel
theorem d_B_hiddenSumEnd_6 : decode c_B_hiddenSumEnd 6 = .ok (.getfield 32, 3) := by decide +kernel
theorem d_B_hiddenSumEnd_9 : decode c_B_hiddenSumEnd 9 = .ok (.isub, 1) := by decide +kernel
theorem d_B_hiddenSumEnd_10 : decode c_B_hiddenSumEnd 10 = .ok (.if_icmp .ne 7, 3) := by decide +kernel
theorem d_B_hiddenSumEnd_13 : decode c_B_hiddenSumEnd 13 = .ok (.iconst 1, 1) := by decide +kernel
theorem d_B_hiddenSumEnd_14 : decode c_B_hiddenSumEnd 14 = .ok (.goto 4, 3) := by decide +kernel
theorem d_B_hiddenSumEnd_17 : decode c_B_hiddenSumEnd 17 = .ok (.iconst 0, 1) := by decide +kernel
theorem d_B_hiddenSumEnd_18 : decode c_B_hiddenSumEnd 18 = .ok (.istore_n 3, 1) := by decide +kernel
theorem d_B_hiddenSumEnd_19 : decode c_B_hiddenSumEnd 19 = .ok (.iload_n 2, 1) := by decide +kernel
theorem d_B_hiddenSumEnd_20 : decode c_B_hiddenSumEnd 20 = .ok (.ifCond .ne 35, 3) := by decide +kernel
theorem d_B_hiddenSumEnd_23 : decode c_B_hiddenSumEnd 23 = .ok (.iload_n 1, 1) := by decide +kernel
theorem d_B_hiddenSumEnd_24 : decode c_B_hiddenSumEnd 24 = .ok (.aload_n 0, 1) := by decide +kernel
theorem d_B_hiddenSumEnd_25 : decode c_B_hiddenSumEnd 25 = .ok (.getfield 68, 3) := by decide +kernel
theorem d_B_hiddenSumEnd_28 : decode c_B_hiddenSumEnd 28 = .ok (.imul, 1) := by decide +kernel
theorem d_B_hiddenSumEnd_29 : decode c_B_hiddenSumEnd 29 = .ok (.iload_n 3, 1) := by decide +kernel
theorem d_B_hiddenSumEnd_30 : decode c_B_hiddenSumEnd 30 = .ok (.ifCond .eq 22, 3) := by decide +kernel
theorem d_B_hiddenSumEnd_33 : decode c_B_hiddenSumEnd 33 = .ok (.aload_n 0, 1) := by decide +kernel
theorem d_B_hiddenSumEnd_34 : decode c_B_hiddenSumEnd 34 = .ok (.invokevirtual 90, 3) := by decide +kernel
theorem d_B_hiddenSumEnd_37 : decode c_B_hiddenSumEnd 37 = .ok (.ifCond .eq 15, 3) := by decide +kernel
theorem d_B_hiddenSumEnd_40 : decode c_B_hiddenSumEnd 40 = .ok (.aload_n 0, 1) := by decide +kernel
theorem d_B_hiddenSumEnd_41 : decode c_B_hiddenSumEnd 41 = .ok (.getfield 71, 3) := by decide +kernel
theorem d_B_hiddenSumEnd_44 : decode c_B_hiddenSumEnd 44 = .ok (.aload_n 0, 1) := by decide +kernel
theorem d_B_hiddenSumEnd_45 : decode c_B_hiddenSumEnd 45 = .ok (.getfield 68, 3) := by decide +kernel
theorem d_B_hiddenSumEnd_48 : decode c_B_hiddenSumEnd 48 = .ok (.isub, 1) := by decide +kernel
theorem d_B_hiddenSumEnd_49 : decode c_B_hiddenSumEnd 49 = .ok (.goto 4, 3) := by decide +kernel
theorem d_B_hiddenSumEnd_52 : decode c_B_hiddenSumEnd 52 = .ok (.iconst 0, 1) := by decide +kernel
theorem d_B_hiddenSumEnd_53 : decode c_B_hiddenSumEnd 53 = .ok (.iadd, 1) := by decide +kernel
theorem d_B_hiddenSumEnd_54 : decode c_B_hiddenSumEnd 54 = .ok (.ireturn, 1) := by decide +kernel
theorem d_B_hiddenSumEnd_55 : decode c_B_hiddenSumEnd 55 = .ok (.iload_n 1, 1) := by decide +kernel
theorem d_B_hiddenSumEnd_56 : decode c_B_hiddenSumEnd 56 = .ok (.aload_n 0, 1) := by decide +kernel
theorem d_B_hiddenSumEnd_57 : decode c_B_hiddenSumEnd 57 = .ok (.getfield 71, 3) := by decide +kernel
theorem d_B_hiddenSumEnd_60 : decode c_B_hiddenSumEnd 60 = .ok (.imul, 1) := by decide +kernel
theorem d_B_hiddenSumEnd_61 : decode c_B_hiddenSumEnd 61 = .ok (.iload_n 3, 1) := by decide +kernel
theorem d_B_hiddenSumEnd_62 : decode c_B_hiddenSumEnd 62 = .ok (.ifCond .eq 22, 3) := by decide +kernel
theorem d_B_hiddenSumEnd_65 : decode c_B_hiddenSumEnd 65 = .ok (.aload_n 0, 1) := by decide +kernel
theorem d_B_hiddenSumEnd_66 : decode c_B_hiddenSumEnd 66 = .ok (.invokevirtual 87, 3) := by decide +kernel
theorem d_B_hiddenSumEnd_69 : decode c_B_hiddenSumEnd 69 = .ok (.ifCond .eq 15, 3) := by decide +kernel
theorem d_B_hiddenSumEnd_72 : decode c_B_hiddenSumEnd 72 = .ok (.aload_n 0, 1) := by decide +kernel
theorem d_B_hiddenSumEnd_73 : decode c_B_hiddenSumEnd 73 = .ok (.getfield 71, 3) := by decide +kernel
theorem d_B_hiddenSumEnd_76 : decode c_B_hiddenSumEnd 76 = .ok (.aload_n 0, 1) := by decide +kernel
theorem d_B_hiddenSumEnd_77 : decode c_B_hiddenSumEnd 77 = .ok (.getfield 68, 3) := by decide +kernel
theorem d_B_hiddenSumEnd_80 : decode c_B_hiddenSumEnd 80 = .ok (.isub, 1) := by decide +kernel
theorem d_B_hiddenSumEnd_81 : decode c_B_hiddenSumEnd 81 = .ok (.goto 4, 3) := by decide +kernel
theorem d_B_hiddenSumEnd_84 : decode c_B_hiddenSumEnd 84 = .ok (.iconst 0, 1) := by decide +kernel
theorem d_B_hiddenSumEnd_85 : decode c_B_hiddenSumEnd 85 = .ok (.isub, 1) := by decide +kernel
theorem d_B_hiddenSumEnd_86 : decode c_B_hiddenSumEnd 86 = .ok (.ireturn, 1) := by decide +kernel
theorem d_B_hiddenCountEnd_0 : decode c_B_hiddenCountEnd 0 = .ok (.aload_n 0, 1) := by decide +kernel
theorem d_B_hiddenCountEnd_1 : decode c_B_hiddenCountEnd 1 = .ok (.getfield 28, 3) := by decide +kernel
theorem d_B_hiddenCountEnd_4 : decode c_B_hiddenCountEnd 4 = .ok (.aload_n 0, 1) := by decide +kernel
theorem d_B_hiddenCountEnd_5 : decode c_B_hiddenCountEnd 5 = .ok (.getfield 32, 3) := by decide +kernel
theorem d_B_hiddenCountEnd_8 : decode c_B_hiddenCountEnd 8 = .ok (.isub, 1) := by decide +kernel
theorem d_B_hiddenCountEnd_9 : decode c_B_hiddenCountEnd 9 = .ok (.istore_n 3, 1) := by decide +kernel
theorem d_B_hiddenCountEnd_10 : decode c_B_hiddenCountEnd 10 = .ok (.aload_n 0, 1) := by decide +kernel
theorem d_B_hiddenCountEnd_11 : decode c_B_hiddenCountEnd 11 = .ok (.getfield 68, 3) := by decide +kernel
theorem d_B_hiddenCountEnd_14 : decode c_B_hiddenCountEnd 14 = .ok (.iload_n 1, 1) := by decide +kernel
theorem d_B_hiddenCountEnd_15 : decode c_B_hiddenCountEnd 15 = .ok (.if_icmp .lt 5, 3) := by decide +kernel
theorem d_B_hiddenCountEnd_18 : decode c_B_hiddenCountEnd 18 = .ok (.iload_n 3, 1) := by decide +kernel
theorem d_B_hiddenCountEnd_19 : decode c_B_hiddenCountEnd 19 = .ok (.ireturn, 1) := by decide +kernel
theorem d_B_hiddenCountEnd_20 : decode c_B_hiddenCountEnd 20 = .ok (.aload_n 0, 1) := by decide +kernel
theorem d_B_hiddenCountEnd_21 : decode c_B_hiddenCountEnd 21 = .ok (.getfield 71, 3) := by decide +kernel
theorem d_B_hiddenCountEnd_24 : decode c_B_hiddenCountEnd 24 = .ok (.iload_n 1, 1) := by decide +kernel
theorem d_B_hiddenCountEnd_25 : decode c_B_hiddenCountEnd 25 = .ok (.if_icmp .ge 5, 3) := by decide +kernel
theorem d_B_hiddenCountEnd_28 : decode c_B_hiddenCountEnd 28 = .ok (.iconst 0, 1) := by decide +kernel
theorem d_B_hiddenCountEnd_29 : decode c_B_hiddenCountEnd 29 = .ok (.ireturn, 1) := by decide +kernel
theorem d_B_hiddenCountEnd_30 : decode c_B_hiddenCountEnd 30 = .ok (.iload_n 2, 1) := by decide +kernel
theorem d_B_hiddenCountEnd_31 : decode c_B_hiddenCountEnd 31 = .ok (.ifCond .ne 16, 3) := by decide +kernel
theorem d_B_hiddenCountEnd_34 : decode c_B_hiddenCountEnd 34 = .ok (.aload_n 0, 1) := by decide +kernel
theorem d_B_hiddenCountEnd_35 : decode c_B_hiddenCountEnd 35 = .ok (.invokevirtual 90, 3) := by decide +kernel
theorem d_B_hiddenCountEnd_38 : decode c_B_hiddenCountEnd 38 = .ok (.ifCond .eq 7, 3) := by decide +kernel
theorem d_B_hiddenCountEnd_41 : decode c_B_hiddenCountEnd 41 = .ok (.iconst 1, 1) := by decide +kernel
theorem d_B_hiddenCountEnd_42 : decode c_B_hiddenCountEnd 42 = .ok (.goto 4, 3) := by decide +kernel
theorem d_B_hiddenCountEnd_45 : decode c_B_hiddenCountEnd 45 = .ok (.iconst 0, 1) := by decide +kernel
theorem d_B_hiddenCountEnd_46 : decode c_B_hiddenCountEnd 46 = .ok (.ireturn, 1) := by decide +kernel
theorem d_B_hiddenCountEnd_47 : decode c_B_hiddenCountEnd 47 = .ok (.aload_n 0, 1) := by decide +kernel
theorem d_B_hiddenCountEnd_48 : decode c_B_hiddenCountEnd 48 = .ok (.invokevirtual 87, 3) := by decide +kernel
theorem d_B_hiddenCountEnd_51 : decode c_B_hiddenCountEnd 51 = .ok (.ifCond .eq 9, 3) := by decide +kernel
theorem d_B_hiddenCountEnd_54 : decode c_B_hiddenCountEnd 54 = .ok (.iload_n 3, 1) := by decide +kernel
theorem d_B_hiddenCountEnd_55 : decode c_B_hiddenCountEnd 55 = .ok (.iconst 1, 1) := by decide +kernel
theorem d_B_hiddenCountEnd_56 : decode c_B_hiddenCountEnd 56 = .ok (.isub, 1) := by decide +kernel
theorem d_B_hiddenCountEnd_57 : decode c_B_hiddenCountEnd 57 = .ok (.goto 4, 3) := by decide +kernel
theorem d_B_hiddenCountEnd_60 : decode c_B_hiddenCountEnd 60 = .ok (.iload_n 3, 1) := by decide +kernel
theorem d_B_hiddenCountEnd_61 : decode c_B_hiddenCountEnd 61 = .ok (.ireturn, 1) := by decide +kernel
theorem d_K_init_0 : decode c_K_init 0 = .ok (.aload_n 0, 1) := by decide +kernel
theorem d_K_init_1 : decode c_K_init 1 = .ok (.invokespecial 3, 3) := by decide +kernel
theorem d_K_init_4 : decode c_K_init 4 = .ok (.return_, 1) := by decide +kernel
theorem d_K_become_0 : decode c_K_become 0 = .ok (.aload_n 0, 1) := by decide +kernel
theorem d_K_become_1 : decode c_K_become 1 = .ok (.iload_n 1, 1) := by decide +kernel
theorem d_K_become_2 : decode c_K_become 2 = .ok (.putfield 9, 3) := by decide +kernel
theorem d_K_become_5 : decode c_K_become 5 = .ok (.aload_n 0, 1) := by decide +kernel
theorem d_K_become_6 : decode c_K_become 6 = .ok (.iload_n 2, 1) := by decide +kernel
theorem d_K_become_7 : decode c_K_become 7 = .ok (.putfield 15, 3) := by decide +kernel
theorem d_K_become_10 : decode c_K_become 10 = .ok (.aload_n 0, 1) := by decide +kernel
theorem d_K_become_11 : decode c_K_become 11 = .ok (.iload_n 3, 1) := by decide +kernel
theorem d_K_become_12 : decode c_K_become 12 = .ok (.putfield 18, 3) := by decide +kernel
theorem d_K_become_15 : decode c_K_become 15 = .ok (.return_, 1) := by decide +kernel
theorem d_K_keeps_0 : decode c_K_keeps 0 = .ok (.aload_n 1, 1) := by decide +kernel
theorem d_K_keeps_1 : decode c_K_keeps 1 = .ok (.iload_n 2, 1) := by decide +kernel
theorem d_K_keeps_2 : decode c_K_keeps 2 = .ok (.invokevirtual 21, 3) := by decide +kernel
theorem d_K_keeps_5 : decode c_K_keeps 5 = .ok (.ifCond .ne 5, 3) := by decide +kernel
theorem d_K_keeps_8 : decode c_K_keeps 8 = .ok (.iconst 0, 1) := by decide +kernel
theorem d_K_keeps_9 : decode c_K_keeps 9 = .ok (.ireturn, 1) := by decide +kernel
theorem d_K_keeps_10 : decode c_K_keeps 10 = .ok (.aload_n 0, 1) := by decide +kernel
theorem d_K_keeps_11 : decode c_K_keeps 11 = .ok (.getfield 9, 3) := by decide +kernel
theorem d_K_keeps_14 : decode c_K_keeps 14 = .ok (.tableswitch 98 0 3 #[30, 40, 58, 76], 30) := by decide +kernel
theorem d_K_keeps_44 : decode c_K_keeps 44 = .ok (.iload_n 2, 1) := by decide +kernel
theorem d_K_keeps_45 : decode c_K_keeps 45 = .ok (.aload_n 0, 1) := by decide +kernel
theorem d_K_keeps_46 : decode c_K_keeps 46 = .ok (.getfield 15, 3) := by decide +kernel
theorem d_K_keeps_49 : decode c_K_keeps 49 = .ok (.iconst 0, 1) := by decide +kernel
theorem d_K_keeps_50 : decode c_K_keeps 50 = .ok (.invokestatic 27, 3) := by decide +kernel
theorem d_K_keeps_53 : decode c_K_keeps 53 = .ok (.ireturn, 1) := by decide +kernel
theorem d_K_keeps_54 : decode c_K_keeps 54 = .ok (.aload_n 1, 1) := by decide +kernel
theorem d_K_keeps_55 : decode c_K_keeps 55 = .ok (.iload_n 2, 1) := by decide +kernel
theorem d_K_keeps_56 : decode c_K_keeps 56 = .ok (.invokevirtual 31, 3) := by decide +kernel
theorem d_K_keeps_59 : decode c_K_keeps 59 = .ok (.aload_n 0, 1) := by decide +kernel
theorem d_K_keeps_60 : decode c_K_keeps 60 = .ok (.getfield 15, 3) := by decide +kernel
theorem d_K_keeps_63 : decode c_K_keeps 63 = .ok (.if_icmp .ge 7, 3) := by decide +kernel
theorem d_K_keeps_66 : decode c_K_keeps 66 = .ok (.iconst 1, 1) := by decide +kernel
theorem d_K_keeps_67 : decode c_K_keeps 67 = .ok (.goto 4, 3) := by decide +kernel
theorem d_K_keeps_70 : decode c_K_keeps 70 = .ok (.iconst 0, 1) := by decide +kernel
theorem d_K_keeps_71 : decode c_K_keeps 71 = .ok (.ireturn, 1) := by decide +kernel
theorem d_K_keeps_72 : decode c_K_keeps 72 = .ok (.aload_n 1, 1) := by decide +kernel
theorem d_K_keeps_73 : decode c_K_keeps 73 = .ok (.getfield 35, 3) := by decide +kernel
theorem d_K_keeps_76 : decode c_K_keeps 76 = .ok (.iload_n 2, 1) := by decide +kernel
theorem d_K_keeps_77 : decode c_K_keeps 77 = .ok (.iaload, 1) := by decide +kernel
theorem d_K_keeps_78 : decode c_K_keeps 78 = .ok (.aload_n 0, 1) := by decide +kernel
theorem d_K_keeps_79 : decode c_K_keeps 79 = .ok (.getfield 15, 3) := by decide +kernel
theorem d_K_keeps_82 : decode c_K_keeps 82 = .ok (.aload_n 0, 1) := by decide +kernel
theorem d_K_keeps_83 : decode c_K_keeps 83 = .ok (.getfield 18, 3) := by decide +kernel
theorem d_K_keeps_86 : decode c_K_keeps 86 = .ok (.invokestatic 27, 3) := by decide +kernel
theorem d_K_keeps_89 : decode c_K_keeps 89 = .ok (.ireturn, 1) := by decide +kernel
theorem d_K_keeps_90 : decode c_K_keeps 90 = .ok (.aload_n 1, 1) := by decide +kernel
theorem d_K_keeps_91 : decode c_K_keeps 91 = .ok (.getfield 39, 3) := by decide +kernel
theorem d_K_keeps_94 : decode c_K_keeps 94 = .ok (.iload_n 2, 1) := by decide +kernel
theorem d_K_keeps_95 : decode c_K_keeps 95 = .ok (.iaload, 1) := by decide +kernel
theorem d_K_keeps_96 : decode c_K_keeps 96 = .ok (.invokestatic 42, 3) := by decide +kernel
theorem d_K_keeps_99 : decode c_K_keeps 99 = .ok (.aload_n 0, 1) := by decide +kernel
theorem d_K_keeps_100 : decode c_K_keeps 100 = .ok (.getfield 15, 3) := by decide +kernel
theorem d_K_keeps_103 : decode c_K_keeps 103 = .ok (.if_icmp .lt 7, 3) := by decide +kernel
theorem d_K_keeps_106 : decode c_K_keeps 106 = .ok (.iconst 1, 1) := by decide +kernel
theorem d_K_keeps_107 : decode c_K_keeps 107 = .ok (.goto 4, 3) := by decide +kernel
theorem d_K_keeps_110 : decode c_K_keeps 110 = .ok (.iconst 0, 1) := by decide +kernel
theorem d_K_keeps_111 : decode c_K_keeps 111 = .ok (.ireturn, 1) := by decide +kernel
theorem d_K_keeps_112 : decode c_K_keeps 112 = .ok (.iconst 0, 1) := by decide +kernel
theorem d_K_keeps_113 : decode c_K_keeps 113 = .ok (.ireturn, 1) := by decide +kernel
theorem d_S_init_0 : decode c_S_init 0 = .ok (.aload_n 0, 1) := by decide +kernel
theorem d_S_init_1 : decode c_S_init 1 = .ok (.invokespecial 3, 3) := by decide +kernel
theorem d_S_init_4 : decode c_S_init 4 = .ok (.aload_n 0, 1) := by decide +kernel
theorem d_S_init_5 : decode c_S_init 5 = .ok (.bipush 40, 2) := by decide +kernel
theorem d_S_init_7 : decode c_S_init 7 = .ok (.newarray .int, 2) := by decide +kernel
theorem d_S_init_9 : decode c_S_init 9 = .ok (.putfield 9, 3) := by decide +kernel
theorem d_S_init_12 : decode c_S_init 12 = .ok (.aload_n 0, 1) := by decide +kernel
theorem d_S_init_13 : decode c_S_init 13 = .ok (.iconst 1, 1) := by decide +kernel
theorem d_S_init_14 : decode c_S_init 14 = .ok (.putfield 15, 3) := by decide +kernel
theorem d_S_init_17 : decode c_S_init 17 = .ok (.return_, 1) := by decide +kernel
theorem d_S_renew_0 : decode c_S_renew 0 = .ok (.aload_n 0, 1) := by decide +kernel
theorem d_S_renew_1 : decode c_S_renew 1 = .ok (.getfield 9, 3) := by decide +kernel
theorem d_S_renew_4 : decode c_S_renew 4 = .ok (.iconst 0, 1) := by decide +kernel
theorem d_S_renew_5 : decode c_S_renew 5 = .ok (.invokestatic 19, 3) := by decide +kernel
theorem d_S_renew_8 : decode c_S_renew 8 = .ok (.aload_n 0, 1) := by decide +kernel
theorem d_S_renew_9 : decode c_S_renew 9 = .ok (.iload_n 1, 1) := by decide +kernel
theorem d_S_renew_10 : decode c_S_renew 10 = .ok (.putfield 25, 3) := by decide +kernel
theorem d_S_renew_13 : decode c_S_renew 13 = .ok (.aload_n 0, 1) := by decide +kernel
theorem d_S_renew_14 : decode c_S_renew 14 = .ok (.iload_n 2, 1) := by decide +kernel
theorem d_S_renew_15 : decode c_S_renew 15 = .ok (.putfield 29, 3) := by decide +kernel
theorem d_S_renew_18 : decode c_S_renew 18 = .ok (.aload_n 0, 1) := by decide +kernel
theorem d_S_renew_19 : decode c_S_renew 19 = .ok (.iconst 0, 1) := by decide +kernel
theorem d_S_renew_20 : decode c_S_renew 20 = .ok (.putfield 15, 3) := by decide +kernel
theorem d_S_renew_23 : decode c_S_renew 23 = .ok (.return_, 1) := by decide +kernel
theorem d_S_faultOf_0 : decode c_S_faultOf 0 = .ok (.aload_n 0, 1) := by decide +kernel
theorem d_S_faultOf_1 : decode c_S_faultOf 1 = .ok (.getfield 15, 3) := by decide +kernel
theorem d_S_faultOf_4 : decode c_S_faultOf 4 = .ok (.ifCond .eq 5, 3) := by decide +kernel
theorem d_S_faultOf_7 : decode c_S_faultOf 7 = .ok (.iconst 1, 1) := by decide +kernel
theorem d_S_faultOf_8 : decode c_S_faultOf 8 = .ok (.ireturn, 1) := by decide +kernel
theorem d_S_faultOf_9 : decode c_S_faultOf 9 = .ok (.aload_n 0, 1) := by decide +kernel
theorem d_S_faultOf_10 : decode c_S_faultOf 10 = .ok (.getfield 25, 3) := by decide +kernel
theorem d_S_faultOf_13 : decode c_S_faultOf 13 = .ok (.iload_n 1, 1) := by decide +kernel
theorem d_S_faultOf_14 : decode c_S_faultOf 14 = .ok (.if_icmp .eq 5, 3) := by decide +kernel
theorem d_S_faultOf_17 : decode c_S_faultOf 17 = .ok (.iconst 3, 1) := by decide +kernel
theorem d_S_faultOf_18 : decode c_S_faultOf 18 = .ok (.ireturn, 1) := by decide +kernel
theorem d_S_faultOf_19 : decode c_S_faultOf 19 = .ok (.iload_n 2, 1) := by decide +kernel
theorem d_S_faultOf_20 : decode c_S_faultOf 20 = .ok (.ifCond .lt 11, 3) := by decide +kernel
theorem d_S_faultOf_23 : decode c_S_faultOf 23 = .ok (.iload_n 2, 1) := by decide +kernel
theorem d_S_faultOf_24 : decode c_S_faultOf 24 = .ok (.aload_n 0, 1) := by decide +kernel
theorem d_S_faultOf_25 : decode c_S_faultOf 25 = .ok (.getfield 29, 3) := by decide +kernel
theorem d_S_faultOf_28 : decode c_S_faultOf 28 = .ok (.if_icmp .lt 7, 3) := by decide +kernel
theorem d_S_faultOf_31 : decode c_S_faultOf 31 = .ok (.iconst 2, 1) := by decide +kernel
theorem d_S_faultOf_32 : decode c_S_faultOf 32 = .ok (.goto 4, 3) := by decide +kernel
theorem d_S_faultOf_35 : decode c_S_faultOf 35 = .ok (.iconst 0, 1) := by decide +kernel
theorem d_S_faultOf_36 : decode c_S_faultOf 36 = .ok (.ireturn, 1) := by decide +kernel
theorem d_S_hasStretch_0 : decode c_S_hasStretch 0 = .ok (.iload_n 1, 1) := by decide +kernel
theorem d_S_hasStretch_1 : decode c_S_hasStretch 1 = .ok (.ifCond .lt 29, 3) := by decide +kernel
theorem d_S_hasStretch_4 : decode c_S_hasStretch 4 = .ok (.iload_n 2, 1) := by decide +kernel
theorem d_S_hasStretch_5 : decode c_S_hasStretch 5 = .ok (.ifCond .lt 25, 3) := by decide +kernel
theorem d_S_hasStretch_8 : decode c_S_hasStretch 8 = .ok (.iload_n 1, 1) := by decide +kernel
theorem d_S_hasStretch_9 : decode c_S_hasStretch 9 = .ok (.aload_n 0, 1) := by decide +kernel
theorem d_S_hasStretch_10 : decode c_S_hasStretch 10 = .ok (.getfield 29, 3) := by decide +kernel
theorem d_S_hasStretch_13 : decode c_S_hasStretch 13 = .ok (.if_icmp .gt 17, 3) := by decide +kernel
theorem d_S_hasStretch_16 : decode c_S_hasStretch 16 = .ok (.iload_n 2, 1) := by decide +kernel
theorem d_S_hasStretch_17 : decode c_S_hasStretch 17 = .ok (.aload_n 0, 1) := by decide +kernel
theorem d_S_hasStretch_18 : decode c_S_hasStretch 18 = .ok (.getfield 29, 3) := by decide +kernel
theorem d_S_hasStretch_21 : decode c_S_hasStretch 21 = .ok (.iload_n 1, 1) := by decide +kernel
theorem d_S_hasStretch_22 : decode c_S_hasStretch 22 = .ok (.isub, 1) := by decide +kernel
theorem d_S_hasStretch_23 : decode c_S_hasStretch 23 = .ok (.if_icmp .gt 7, 3) := by decide +kernel
theorem d_S_hasStretch_26 : decode c_S_hasStretch 26 = .ok (.iconst 1, 1) := by decide +kernel
theorem d_S_hasStretch_27 : decode c_S_hasStretch 27 = .ok (.goto 4, 3) := by decide +kernel
theorem d_S_hasStretch_30 : decode c_S_hasStretch 30 = .ok (.iconst 0, 1) := by decide +kernel
theorem d_S_hasStretch_31 : decode c_S_hasStretch 31 = .ok (.ireturn, 1) := by decide +kernel
theorem d_S_store_0 : decode c_S_store 0 = .ok (.iload_n 1, 1) := by decide +kernel
theorem d_S_store_1 : decode c_S_store 1 = .ok (.ifCond .lt 22, 3) := by decide +kernel
theorem d_S_store_4 : decode c_S_store 4 = .ok (.iload_n 1, 1) := by decide +kernel
theorem d_S_store_5 : decode c_S_store 5 = .ok (.aload_n 0, 1) := by decide +kernel
theorem d_S_store_6 : decode c_S_store 6 = .ok (.getfield 29, 3) := by decide +kernel
theorem d_S_store_9 : decode c_S_store 9 = .ok (.if_icmp .ge 14, 3) := by decide +kernel
theorem d_S_store_12 : decode c_S_store 12 = .ok (.aload_n 0, 1) := by decide +kernel
theorem d_S_store_13 : decode c_S_store 13 = .ok (.getfield 9, 3) := by decide +kernel
theorem d_S_store_16 : decode c_S_store 16 = .ok (.iload_n 1, 1) := by decide +kernel
theorem d_S_store_17 : decode c_S_store 17 = .ok (.aload_n 0, 1) := by decide +kernel
theorem d_S_store_18 : decode c_S_store 18 = .ok (.iload_n 2, 1) := by decide +kernel
theorem d_S_store_19 : decode c_S_store 19 = .ok (.invokevirtual 32, 3) := by decide +kernel
theorem d_S_store_22 : decode c_S_store 22 = .ok (.iastore, 1) := by decide +kernel
theorem d_S_store_23 : decode c_S_store 23 = .ok (.return_, 1) := by decide +kernel
theorem d_S_cut_0 : decode c_S_cut 0 = .ok (.aload_n 0, 1) := by decide +kernel
theorem d_S_cut_1 : decode c_S_cut 1 = .ok (.getfield 25, 3) := by decide +kernel
theorem d_S_cut_4 : decode c_S_cut 4 = .ok (.lookupswitch 34 #[(0, 28), (1, 31)], 28) := by decide +kernel
theorem d_S_cut_32 : decode c_S_cut 32 = .ok (.iload_n 1, 1) := by decide +kernel
theorem d_S_cut_33 : decode c_S_cut 33 = .ok (.i2b, 1) := by decide +kernel
theorem d_S_cut_34 : decode c_S_cut 34 = .ok (.ireturn, 1) := by decide +kernel
theorem d_S_cut_35 : decode c_S_cut 35 = .ok (.iload_n 1, 1) := by decide +kernel
theorem d_S_cut_36 : decode c_S_cut 36 = .ok (.i2s, 1) := by decide +kernel
theorem d_S_cut_37 : decode c_S_cut 37 = .ok (.ireturn, 1) := by decide +kernel
theorem d_S_cut_38 : decode c_S_cut 38 = .ok (.iload_n 1, 1) := by decide +kernel
theorem d_S_cut_39 : decode c_S_cut 39 = .ok (.ireturn, 1) := by decide +kernel
theorem d_T_init_0 : decode c_T_init 0 = .ok (.aload_n 0, 1) := by decide +kernel
theorem d_T_init_1 : decode c_T_init 1 = .ok (.invokespecial 3, 3) := by decide +kernel
theorem d_T_init_4 : decode c_T_init 4 = .ok (.aload_n 0, 1) := by decide +kernel
theorem d_T_init_5 : decode c_T_init 5 = .ok (.bipush 8, 2) := by decide +kernel
theorem d_T_init_7 : decode c_T_init 7 = .ok (.anewarray 9, 3) := by decide +kernel
theorem d_T_init_10 : decode c_T_init 10 = .ok (.putfield 11, 3) := by decide +kernel
theorem d_T_init_13 : decode c_T_init 13 = .ok (.aload_n 0, 1) := by decide +kernel
theorem d_T_init_14 : decode c_T_init 14 = .ok (.iconst 4, 1) := by decide +kernel
theorem d_T_init_15 : decode c_T_init 15 = .ok (.anewarray 17, 3) := by decide +kernel
theorem d_T_init_18 : decode c_T_init 18 = .ok (.putfield 19, 3) := by decide +kernel
theorem d_T_init_21 : decode c_T_init 21 = .ok (.iconst 0, 1) := by decide +kernel
theorem d_T_init_22 : decode c_T_init 22 = .ok (.istore_n 1, 1) := by decide +kernel
theorem d_T_init_23 : decode c_T_init 23 = .ok (.iload_n 1, 1) := by decide +kernel
theorem d_T_init_24 : decode c_T_init 24 = .ok (.bipush 8, 2) := by decide +kernel
theorem d_T_init_26 : decode c_T_init 26 = .ok (.if_icmp .ge 22, 3) := by decide +kernel
theorem d_T_init_29 : decode c_T_init 29 = .ok (.aload_n 0, 1) := by decide +kernel
theorem d_T_init_30 : decode c_T_init 30 = .ok (.getfield 11, 3) := by decide +kernel
theorem d_T_init_33 : decode c_T_init 33 = .ok (.iload_n 1, 1) := by decide +kernel
theorem d_T_init_34 : decode c_T_init 34 = .ok (.new 9, 3) := by decide +kernel
theorem d_T_init_37 : decode c_T_init 37 = .ok (.dup, 1) := by decide +kernel
theorem d_T_init_38 : decode c_T_init 38 = .ok (.invokespecial 23, 3) := by decide +kernel
theorem d_T_init_41 : decode c_T_init 41 = .ok (.aastore, 1) := by decide +kernel
theorem d_T_init_42 : decode c_T_init 42 = .ok (.iinc 1 1, 3) := by decide +kernel
theorem d_T_init_45 : decode c_T_init 45 = .ok (.goto (-22), 3) := by decide +kernel
theorem d_T_init_48 : decode c_T_init 48 = .ok (.iconst 0, 1) := by decide +kernel
theorem d_T_init_49 : decode c_T_init 49 = .ok (.istore_n 1, 1) := by decide +kernel
theorem d_T_init_50 : decode c_T_init 50 = .ok (.iload_n 1, 1) := by decide +kernel
theorem d_T_init_51 : decode c_T_init 51 = .ok (.iconst 4, 1) := by decide +kernel
theorem d_T_init_52 : decode c_T_init 52 = .ok (.if_icmp .ge 22, 3) := by decide +kernel
theorem d_T_init_55 : decode c_T_init 55 = .ok (.aload_n 0, 1) := by decide +kernel
theorem d_T_init_56 : decode c_T_init 56 = .ok (.getfield 19, 3) := by decide +kernel
theorem d_T_init_59 : decode c_T_init 59 = .ok (.iload_n 1, 1) := by decide +kernel
theorem d_T_init_60 : decode c_T_init 60 = .ok (.new 17, 3) := by decide +kernel
theorem d_T_init_63 : decode c_T_init 63 = .ok (.dup, 1) := by decide +kernel
theorem d_T_init_64 : decode c_T_init 64 = .ok (.invokespecial 24, 3) := by decide +kernel
theorem d_T_init_67 : decode c_T_init 67 = .ok (.aastore, 1) := by decide +kernel
theorem d_T_init_68 : decode c_T_init 68 = .ok (.iinc 1 1, 3) := by decide +kernel
theorem d_T_init_71 : decode c_T_init 71 = .ok (.goto (-21), 3) := by decide +kernel
theorem d_T_init_74 : decode c_T_init 74 = .ok (.return_, 1) := by decide +kernel
theorem d_T_addKeeper_0 : decode c_T_addKeeper 0 = .ok (.aload_n 0, 1) := by decide +kernel
theorem d_T_addKeeper_1 : decode c_T_addKeeper 1 = .ok (.getfield 25, 3) := by decide +kernel
theorem d_T_addKeeper_4 : decode c_T_addKeeper 4 = .ok (.ifCond .lt 36, 3) := by decide +kernel
theorem d_T_addKeeper_7 : decode c_T_addKeeper 7 = .ok (.aload_n 0, 1) := by decide +kernel
theorem d_T_addKeeper_8 : decode c_T_addKeeper 8 = .ok (.getfield 25, 3) := by decide +kernel
theorem d_T_addKeeper_11 : decode c_T_addKeeper 11 = .ok (.iconst 4, 1) := by decide +kernel
theorem d_T_addKeeper_12 : decode c_T_addKeeper 12 = .ok (.if_icmp .ge 28, 3) := by decide +kernel
theorem d_T_addKeeper_15 : decode c_T_addKeeper 15 = .ok (.aload_n 0, 1) := by decide +kernel
theorem d_T_addKeeper_16 : decode c_T_addKeeper 16 = .ok (.getfield 19, 3) := by decide +kernel
theorem d_T_addKeeper_19 : decode c_T_addKeeper 19 = .ok (.aload_n 0, 1) := by decide +kernel
theorem d_T_addKeeper_20 : decode c_T_addKeeper 20 = .ok (.getfield 25, 3) := by decide +kernel
theorem d_T_addKeeper_23 : decode c_T_addKeeper 23 = .ok (.aaload, 1) := by decide +kernel
theorem d_T_addKeeper_24 : decode c_T_addKeeper 24 = .ok (.iload_n 1, 1) := by decide +kernel
theorem d_T_addKeeper_25 : decode c_T_addKeeper 25 = .ok (.iload_n 2, 1) := by decide +kernel
theorem d_T_addKeeper_26 : decode c_T_addKeeper 26 = .ok (.iload_n 3, 1) := by decide +kernel
theorem d_T_addKeeper_27 : decode c_T_addKeeper 27 = .ok (.invokevirtual 29, 3) := by decide +kernel
theorem d_T_addKeeper_30 : decode c_T_addKeeper 30 = .ok (.aload_n 0, 1) := by decide +kernel
theorem d_T_addKeeper_31 : decode c_T_addKeeper 31 = .ok (.dup, 1) := by decide +kernel
theorem d_T_addKeeper_32 : decode c_T_addKeeper 32 = .ok (.getfield 25, 3) := by decide +kernel
theorem d_T_addKeeper_35 : decode c_T_addKeeper 35 = .ok (.iconst 1, 1) := by decide +kernel
theorem d_T_addKeeper_36 : decode c_T_addKeeper 36 = .ok (.iadd, 1) := by decide +kernel
theorem d_T_addKeeper_37 : decode c_T_addKeeper 37 = .ok (.putfield 25, 3) := by decide +kernel
theorem d_T_addKeeper_40 : decode c_T_addKeeper 40 = .ok (.return_, 1) := by decide +kernel
theorem d_T_close_0 : decode c_T_close 0 = .ok (.aload_n 0, 1) := by decide +kernel
theorem d_T_close_1 : decode c_T_close 1 = .ok (.invokevirtual 33, 3) := by decide +kernel
theorem d_T_close_4 : decode c_T_close 4 = .ok (.istore_n 1, 1) := by decide +kernel
theorem d_T_close_5 : decode c_T_close 5 = .ok (.iconst 0, 1) := by decide +kernel
theorem d_T_close_6 : decode c_T_close 6 = .ok (.istore_n 2, 1) := by decide +kernel
theorem d_T_close_7 : decode c_T_close 7 = .ok (.iload_n 2, 1) := by decide +kernel
theorem d_T_close_8 : decode c_T_close 8 = .ok (.bipush 8, 2) := by decide +kernel
theorem d_T_close_10 : decode c_T_close 10 = .ok (.if_icmp .ge 29, 3) := by decide +kernel
theorem d_T_close_13 : decode c_T_close 13 = .ok (.aload_n 0, 1) := by decide +kernel
theorem d_T_close_14 : decode c_T_close 14 = .ok (.aload_n 0, 1) := by decide +kernel
theorem d_T_close_15 : decode c_T_close 15 = .ok (.getfield 11, 3) := by decide +kernel
theorem d_T_close_18 : decode c_T_close 18 = .ok (.iload_n 2, 1) := by decide +kernel
theorem d_T_close_19 : decode c_T_close 19 = .ok (.aaload, 1) := by decide +kernel
theorem d_T_close_20 : decode c_T_close 20 = .ok (.invokevirtual 37, 3) := by decide +kernel
theorem d_T_close_23 : decode c_T_close 23 = .ok (.aload_n 0, 1) := by decide +kernel
theorem d_T_close_24 : decode c_T_close 24 = .ok (.getfield 11, 3) := by decide +kernel
theorem d_T_close_27 : decode c_T_close 27 = .ok (.iload_n 2, 1) := by decide +kernel
theorem d_T_close_28 : decode c_T_close 28 = .ok (.aaload, 1) := by decide +kernel
theorem d_T_close_29 : decode c_T_close 29 = .ok (.iload_n 1, 1) := by decide +kernel
theorem d_T_close_30 : decode c_T_close 30 = .ok (.invokevirtual 41, 3) := by decide +kernel
theorem d_T_close_33 : decode c_T_close 33 = .ok (.iinc 2 1, 3) := by decide +kernel
theorem d_T_close_36 : decode c_T_close 36 = .ok (.goto (-29), 3) := by decide +kernel
theorem d_T_close_39 : decode c_T_close 39 = .ok (.aload_n 0, 1) := by decide +kernel
theorem d_T_close_40 : decode c_T_close 40 = .ok (.iconst 1, 1) := by decide +kernel
theorem d_T_close_41 : decode c_T_close 41 = .ok (.putfield 45, 3) := by decide +kernel
theorem d_T_close_44 : decode c_T_close 44 = .ok (.return_, 1) := by decide +kernel
theorem d_T_empty_0 : decode c_T_empty 0 = .ok (.iconst 0, 1) := by decide +kernel
theorem d_T_empty_1 : decode c_T_empty 1 = .ok (.istore_n 1, 1) := by decide +kernel
theorem d_T_empty_2 : decode c_T_empty 2 = .ok (.iload_n 1, 1) := by decide +kernel
theorem d_T_empty_3 : decode c_T_empty 3 = .ok (.bipush 8, 2) := by decide +kernel
theorem d_T_empty_5 : decode c_T_empty 5 = .ok (.if_icmp .ge 18, 3) := by decide +kernel
theorem d_T_empty_8 : decode c_T_empty 8 = .ok (.aload_n 0, 1) := by decide +kernel
theorem d_T_empty_9 : decode c_T_empty 9 = .ok (.getfield 11, 3) := by decide +kernel
theorem d_T_empty_12 : decode c_T_empty 12 = .ok (.iload_n 1, 1) := by decide +kernel
theorem d_T_empty_13 : decode c_T_empty 13 = .ok (.aaload, 1) := by decide +kernel
theorem d_T_empty_14 : decode c_T_empty 14 = .ok (.invokevirtual 49, 3) := by decide +kernel
theorem d_T_empty_17 : decode c_T_empty 17 = .ok (.iinc 1 1, 3) := by decide +kernel
theorem d_T_empty_20 : decode c_T_empty 20 = .ok (.goto (-18), 3) := by decide +kernel
theorem d_T_empty_23 : decode c_T_empty 23 = .ok (.aload_n 0, 1) := by decide +kernel
theorem d_T_empty_24 : decode c_T_empty 24 = .ok (.iconst 0, 1) := by decide +kernel
theorem d_T_empty_25 : decode c_T_empty 25 = .ok (.putfield 25, 3) := by decide +kernel
theorem d_T_empty_28 : decode c_T_empty 28 = .ok (.aload_n 0, 1) := by decide +kernel
theorem d_T_empty_29 : decode c_T_empty 29 = .ok (.iconst 0, 1) := by decide +kernel
theorem d_T_empty_30 : decode c_T_empty 30 = .ok (.putfield 45, 3) := by decide +kernel
theorem d_T_empty_33 : decode c_T_empty 33 = .ok (.return_, 1) := by decide +kernel
theorem d_T_rows_0 : decode c_T_rows 0 = .ok (.iconst 0, 1) := by decide +kernel
theorem d_T_rows_1 : decode c_T_rows 1 = .ok (.istore_n 1, 1) := by decide +kernel
theorem d_T_rows_2 : decode c_T_rows 2 = .ok (.iconst 0, 1) := by decide +kernel
theorem d_T_rows_3 : decode c_T_rows 3 = .ok (.istore_n 2, 1) := by decide +kernel
theorem d_T_rows_4 : decode c_T_rows 4 = .ok (.iload_n 2, 1) := by decide +kernel
theorem d_T_rows_5 : decode c_T_rows 5 = .ok (.bipush 8, 2) := by decide +kernel
theorem d_T_rows_7 : decode c_T_rows 7 = .ok (.if_icmp .ge 21, 3) := by decide +kernel
theorem d_T_rows_10 : decode c_T_rows 10 = .ok (.iload_n 1, 1) := by decide +kernel
theorem d_T_rows_11 : decode c_T_rows 11 = .ok (.aload_n 0, 1) := by decide +kernel
theorem d_T_rows_12 : decode c_T_rows 12 = .ok (.getfield 11, 3) := by decide +kernel
theorem d_T_rows_15 : decode c_T_rows 15 = .ok (.iload_n 2, 1) := by decide +kernel
theorem d_T_rows_16 : decode c_T_rows 16 = .ok (.aaload, 1) := by decide +kernel
theorem d_T_rows_17 : decode c_T_rows 17 = .ok (.getfield 52, 3) := by decide +kernel
theorem d_T_rows_20 : decode c_T_rows 20 = .ok (.iadd, 1) := by decide +kernel
theorem d_T_rows_21 : decode c_T_rows 21 = .ok (.istore_n 1, 1) := by decide +kernel
theorem d_T_rows_22 : decode c_T_rows 22 = .ok (.iinc 2 1, 3) := by decide +kernel
theorem d_T_rows_25 : decode c_T_rows 25 = .ok (.goto (-21), 3) := by decide +kernel
theorem d_T_rows_28 : decode c_T_rows 28 = .ok (.iload_n 1, 1) := by decide +kernel
theorem d_T_rows_29 : decode c_T_rows 29 = .ok (.ireturn, 1) := by decide +kernel
theorem d_T_knownRows_0 : decode c_T_knownRows 0 = .ok (.iconst 0, 1) := by decide +kernel
theorem d_T_knownRows_1 : decode c_T_knownRows 1 = .ok (.istore_n 1, 1) := by decide +kernel
theorem d_T_knownRows_2 : decode c_T_knownRows 2 = .ok (.iconst 0, 1) := by decide +kernel
theorem d_T_knownRows_3 : decode c_T_knownRows 3 = .ok (.istore_n 2, 1) := by decide +kernel
theorem d_T_knownRows_4 : decode c_T_knownRows 4 = .ok (.iload_n 2, 1) := by decide +kernel
theorem d_T_knownRows_5 : decode c_T_knownRows 5 = .ok (.bipush 8, 2) := by decide +kernel
theorem d_T_knownRows_7 : decode c_T_knownRows 7 = .ok (.if_icmp .ge 21, 3) := by decide +kernel
theorem d_T_knownRows_10 : decode c_T_knownRows 10 = .ok (.iload_n 1, 1) := by decide +kernel
theorem d_T_knownRows_11 : decode c_T_knownRows 11 = .ok (.aload_n 0, 1) := by decide +kernel
theorem d_T_knownRows_12 : decode c_T_knownRows 12 = .ok (.getfield 11, 3) := by decide +kernel
theorem d_T_knownRows_15 : decode c_T_knownRows 15 = .ok (.iload_n 2, 1) := by decide +kernel
theorem d_T_knownRows_16 : decode c_T_knownRows 16 = .ok (.aaload, 1) := by decide +kernel
theorem d_T_knownRows_17 : decode c_T_knownRows 17 = .ok (.getfield 55, 3) := by decide +kernel
theorem d_T_knownRows_20 : decode c_T_knownRows 20 = .ok (.iadd, 1) := by decide +kernel
theorem d_T_knownRows_21 : decode c_T_knownRows 21 = .ok (.istore_n 1, 1) := by decide +kernel
theorem d_T_knownRows_22 : decode c_T_knownRows 22 = .ok (.iinc 2 1, 3) := by decide +kernel
theorem d_T_knownRows_25 : decode c_T_knownRows 25 = .ok (.goto (-21), 3) := by decide +kernel
theorem d_T_knownRows_28 : decode c_T_knownRows 28 = .ok (.iload_n 1, 1) := by decide +kernel
theorem d_T_knownRows_29 : decode c_T_knownRows 29 = .ok (.ireturn, 1) := by decide +kernel
theorem d_T_hasKeyed_0 : decode c_T_hasKeyed 0 = .ok (.iconst 0, 1) := by decide +kernel
theorem d_T_hasKeyed_1 : decode c_T_hasKeyed 1 = .ok (.istore_n 3, 1) := by decide +kernel
theorem d_T_hasKeyed_2 : decode c_T_hasKeyed 2 = .ok (.iload_n 3, 1) := by decide +kernel
theorem d_T_hasKeyed_3 : decode c_T_hasKeyed 3 = .ok (.aload_n 0, 1) := by decide +kernel
theorem d_T_hasKeyed_4 : decode c_T_hasKeyed 4 = .ok (.getfield 25, 3) := by decide +kernel
theorem d_T_hasKeyed_7 : decode c_T_hasKeyed 7 = .ok (.if_icmp .ge 46, 3) := by decide +kernel
theorem d_T_hasKeyed_10 : decode c_T_hasKeyed 10 = .ok (.aload_n 0, 1) := by decide +kernel
theorem d_T_hasKeyed_11 : decode c_T_hasKeyed 11 = .ok (.getfield 19, 3) := by decide +kernel
theorem d_T_hasKeyed_14 : decode c_T_hasKeyed 14 = .ok (.iload_n 3, 1) := by decide +kernel
theorem d_T_hasKeyed_15 : decode c_T_hasKeyed 15 = .ok (.aaload, 1) := by decide +kernel
theorem d_T_hasKeyed_16 : decode c_T_hasKeyed 16 = .ok (.astore 4, 2) := by decide +kernel
theorem d_T_hasKeyed_18 : decode c_T_hasKeyed 18 = .ok (.aload 4, 2) := by decide +kernel
theorem d_T_hasKeyed_20 : decode c_T_hasKeyed 20 = .ok (.getfield 58, 3) := by decide +kernel
theorem d_T_hasKeyed_23 : decode c_T_hasKeyed 23 = .ok (.iconst 2, 1) := by decide +kernel
theorem d_T_hasKeyed_24 : decode c_T_hasKeyed 24 = .ok (.if_icmp .ne 23, 3) := by decide +kernel
theorem d_T_hasKeyed_27 : decode c_T_hasKeyed 27 = .ok (.aload 4, 2) := by decide +kernel
theorem d_T_hasKeyed_29 : decode c_T_hasKeyed 29 = .ok (.getfield 61, 3) := by decide +kernel
theorem d_T_hasKeyed_32 : decode c_T_hasKeyed 32 = .ok (.iload_n 1, 1) := by decide +kernel
theorem d_T_hasKeyed_33 : decode c_T_hasKeyed 33 = .ok (.if_icmp .ne 14, 3) := by decide +kernel
theorem d_T_hasKeyed_36 : decode c_T_hasKeyed 36 = .ok (.aload 4, 2) := by decide +kernel
theorem d_T_hasKeyed_38 : decode c_T_hasKeyed 38 = .ok (.getfield 64, 3) := by decide +kernel
theorem d_T_hasKeyed_41 : decode c_T_hasKeyed 41 = .ok (.iload_n 2, 1) := by decide +kernel
theorem d_T_hasKeyed_42 : decode c_T_hasKeyed 42 = .ok (.if_icmp .ne 5, 3) := by decide +kernel
theorem d_T_hasKeyed_45 : decode c_T_hasKeyed 45 = .ok (.iconst 1, 1) := by decide +kernel
theorem d_T_hasKeyed_46 : decode c_T_hasKeyed 46 = .ok (.ireturn, 1) := by decide +kernel
theorem d_T_hasKeyed_47 : decode c_T_hasKeyed 47 = .ok (.iinc 3 1, 3) := by decide +kernel
theorem d_T_hasKeyed_50 : decode c_T_hasKeyed 50 = .ok (.goto (-48), 3) := by decide +kernel
theorem d_T_hasKeyed_53 : decode c_T_hasKeyed 53 = .ok (.iconst 0, 1) := by decide +kernel
theorem d_T_hasKeyed_54 : decode c_T_hasKeyed 54 = .ok (.ireturn, 1) := by decide +kernel
theorem d_T_sumEnd_0 : decode c_T_sumEnd 0 = .ok (.lconst 0, 1) := by decide +kernel
theorem d_T_sumEnd_1 : decode c_T_sumEnd 1 = .ok (.lstore_n 3, 1) := by decide +kernel
theorem d_T_sumEnd_2 : decode c_T_sumEnd 2 = .ok (.iconst 0, 1) := by decide +kernel
theorem d_T_sumEnd_3 : decode c_T_sumEnd 3 = .ok (.istore 5, 2) := by decide +kernel
theorem d_T_sumEnd_5 : decode c_T_sumEnd 5 = .ok (.iload 5, 2) := by decide +kernel
theorem d_T_sumEnd_7 : decode c_T_sumEnd 7 = .ok (.bipush 8, 2) := by decide +kernel
theorem d_T_sumEnd_9 : decode c_T_sumEnd 9 = .ok (.if_icmp .ge 24, 3) := by decide +kernel
theorem d_T_sumEnd_12 : decode c_T_sumEnd 12 = .ok (.lload_n 3, 1) := by decide +kernel
theorem d_T_sumEnd_13 : decode c_T_sumEnd 13 = .ok (.aload_n 0, 1) := by decide +kernel
theorem d_T_sumEnd_14 : decode c_T_sumEnd 14 = .ok (.getfield 11, 3) := by decide +kernel
theorem d_T_sumEnd_17 : decode c_T_sumEnd 17 = .ok (.iload 5, 2) := by decide +kernel
theorem d_T_sumEnd_19 : decode c_T_sumEnd 19 = .ok (.aaload, 1) := by decide +kernel
theorem d_T_sumEnd_20 : decode c_T_sumEnd 20 = .ok (.iload_n 1, 1) := by decide +kernel
theorem d_T_sumEnd_21 : decode c_T_sumEnd 21 = .ok (.iload_n 2, 1) := by decide +kernel
theorem d_T_sumEnd_22 : decode c_T_sumEnd 22 = .ok (.invokevirtual 67, 3) := by decide +kernel
theorem d_T_sumEnd_25 : decode c_T_sumEnd 25 = .ok (.ladd, 1) := by decide +kernel
theorem d_T_sumEnd_26 : decode c_T_sumEnd 26 = .ok (.lstore_n 3, 1) := by decide +kernel
theorem d_T_sumEnd_27 : decode c_T_sumEnd 27 = .ok (.iinc 5 1, 3) := by decide +kernel
theorem d_T_sumEnd_30 : decode c_T_sumEnd 30 = .ok (.goto (-25), 3) := by decide +kernel
theorem d_T_sumEnd_33 : decode c_T_sumEnd 33 = .ok (.lload_n 3, 1) := by decide +kernel
theorem d_T_sumEnd_34 : decode c_T_sumEnd 34 = .ok (.lreturn, 1) := by decide +kernel
theorem d_T_apart_0 : decode c_T_apart 0 = .ok (.aload_n 0, 1) := by decide +kernel
theorem d_T_apart_1 : decode c_T_apart 1 = .ok (.iload_n 1, 1) := by decide +kernel
theorem d_T_apart_2 : decode c_T_apart 2 = .ok (.iconst 1, 1) := by decide +kernel
theorem d_T_apart_3 : decode c_T_apart 3 = .ok (.invokevirtual 71, 3) := by decide +kernel
theorem d_T_apart_6 : decode c_T_apart 6 = .ok (.aload_n 0, 1) := by decide +kernel
theorem d_T_apart_7 : decode c_T_apart 7 = .ok (.iload_n 1, 1) := by decide +kernel
theorem d_T_apart_8 : decode c_T_apart 8 = .ok (.iconst 0, 1) := by decide +kernel
theorem d_T_apart_9 : decode c_T_apart 9 = .ok (.invokevirtual 71, 3) := by decide +kernel
theorem d_T_apart_12 : decode c_T_apart 12 = .ok (.lsub, 1) := by decide +kernel
theorem d_T_apart_13 : decode c_T_apart 13 = .ok (.lreturn, 1) := by decide +kernel
theorem d_T_countEnd_0 : decode c_T_countEnd 0 = .ok (.iconst 0, 1) := by decide +kernel
theorem d_T_countEnd_1 : decode c_T_countEnd 1 = .ok (.istore_n 3, 1) := by decide +kernel
theorem d_T_countEnd_2 : decode c_T_countEnd 2 = .ok (.iconst 0, 1) := by decide +kernel
theorem d_T_countEnd_3 : decode c_T_countEnd 3 = .ok (.istore 4, 2) := by decide +kernel
theorem d_T_countEnd_5 : decode c_T_countEnd 5 = .ok (.iload 4, 2) := by decide +kernel
theorem d_T_countEnd_7 : decode c_T_countEnd 7 = .ok (.bipush 8, 2) := by decide +kernel
theorem d_T_countEnd_9 : decode c_T_countEnd 9 = .ok (.if_icmp .ge 24, 3) := by decide +kernel
theorem d_T_countEnd_12 : decode c_T_countEnd 12 = .ok (.iload_n 3, 1) := by decide +kernel
theorem d_T_countEnd_13 : decode c_T_countEnd 13 = .ok (.aload_n 0, 1) := by decide +kernel
theorem d_T_countEnd_14 : decode c_T_countEnd 14 = .ok (.getfield 11, 3) := by decide +kernel
theorem d_T_countEnd_17 : decode c_T_countEnd 17 = .ok (.iload 4, 2) := by decide +kernel
theorem d_T_countEnd_19 : decode c_T_countEnd 19 = .ok (.aaload, 1) := by decide +kernel
theorem d_T_countEnd_20 : decode c_T_countEnd 20 = .ok (.iload_n 1, 1) := by decide +kernel
theorem d_T_countEnd_21 : decode c_T_countEnd 21 = .ok (.iload_n 2, 1) := by decide +kernel
theorem d_T_countEnd_22 : decode c_T_countEnd 22 = .ok (.invokevirtual 72, 3) := by decide +kernel
theorem d_T_countEnd_25 : decode c_T_countEnd 25 = .ok (.iadd, 1) := by decide +kernel
theorem d_T_countEnd_26 : decode c_T_countEnd 26 = .ok (.istore_n 3, 1) := by decide +kernel
theorem d_T_countEnd_27 : decode c_T_countEnd 27 = .ok (.iinc 4 1, 3) := by decide +kernel
theorem d_T_countEnd_30 : decode c_T_countEnd 30 = .ok (.goto (-25), 3) := by decide +kernel
theorem d_T_countEnd_33 : decode c_T_countEnd 33 = .ok (.iload_n 3, 1) := by decide +kernel
theorem d_T_countEnd_34 : decode c_T_countEnd 34 = .ok (.ireturn, 1) := by decide +kernel
theorem d_T_widestBlock_0 : decode c_T_widestBlock 0 = .ok (.iconst (-1), 1) := by decide +kernel
theorem d_T_widestBlock_1 : decode c_T_widestBlock 1 = .ok (.istore_n 2, 1) := by decide +kernel
theorem d_T_widestBlock_2 : decode c_T_widestBlock 2 = .ok (.lconst 0, 1) := by decide +kernel
theorem d_T_widestBlock_3 : decode c_T_widestBlock 3 = .ok (.lstore_n 3, 1) := by decide +kernel
theorem d_T_widestBlock_4 : decode c_T_widestBlock 4 = .ok (.iconst 0, 1) := by decide +kernel
theorem d_T_widestBlock_5 : decode c_T_widestBlock 5 = .ok (.istore 5, 2) := by decide +kernel
theorem d_T_widestBlock_7 : decode c_T_widestBlock 7 = .ok (.iload 5, 2) := by decide +kernel
theorem d_T_widestBlock_9 : decode c_T_widestBlock 9 = .ok (.bipush 8, 2) := by decide +kernel
theorem d_T_widestBlock_11 : decode c_T_widestBlock 11 = .ok (.if_icmp .ge 35, 3) := by decide +kernel
theorem d_T_widestBlock_14 : decode c_T_widestBlock 14 = .ok (.aload_n 0, 1) := by decide +kernel
theorem d_T_widestBlock_15 : decode c_T_widestBlock 15 = .ok (.getfield 11, 3) := by decide +kernel
theorem d_T_widestBlock_18 : decode c_T_widestBlock 18 = .ok (.iload 5, 2) := by decide +kernel
theorem d_T_widestBlock_20 : decode c_T_widestBlock 20 = .ok (.aaload, 1) := by decide +kernel
theorem d_T_widestBlock_21 : decode c_T_widestBlock 21 = .ok (.iload_n 1, 1) := by decide +kernel
theorem d_T_widestBlock_22 : decode c_T_widestBlock 22 = .ok (.invokevirtual 76, 3) := by decide +kernel
theorem d_T_widestBlock_25 : decode c_T_widestBlock 25 = .ok (.lstore 6, 2) := by decide +kernel
theorem d_T_widestBlock_27 : decode c_T_widestBlock 27 = .ok (.lload 6, 2) := by decide +kernel
theorem d_T_widestBlock_29 : decode c_T_widestBlock 29 = .ok (.lload_n 3, 1) := by decide +kernel
theorem d_T_widestBlock_30 : decode c_T_widestBlock 30 = .ok (.lcmp, 1) := by decide +kernel
theorem d_T_widestBlock_31 : decode c_T_widestBlock 31 = .ok (.ifCond .le 9, 3) := by decide +kernel
theorem d_T_widestBlock_34 : decode c_T_widestBlock 34 = .ok (.lload 6, 2) := by decide +kernel
theorem d_T_widestBlock_36 : decode c_T_widestBlock 36 = .ok (.lstore_n 3, 1) := by decide +kernel
theorem d_T_widestBlock_37 : decode c_T_widestBlock 37 = .ok (.iload 5, 2) := by decide +kernel
theorem d_T_widestBlock_39 : decode c_T_widestBlock 39 = .ok (.istore_n 2, 1) := by decide +kernel
theorem d_T_widestBlock_40 : decode c_T_widestBlock 40 = .ok (.iinc 5 1, 3) := by decide +kernel
theorem d_T_widestBlock_43 : decode c_T_widestBlock 43 = .ok (.goto (-36), 3) := by decide +kernel
theorem d_T_widestBlock_46 : decode c_T_widestBlock 46 = .ok (.iload_n 2, 1) := by decide +kernel
theorem d_T_widestBlock_47 : decode c_T_widestBlock 47 = .ok (.ireturn, 1) := by decide +kernel
theorem d_T_mixedInto_0 : decode c_T_mixedInto 0 = .ok (.lload_n 1, 1) := by decide +kernel
theorem d_T_mixedInto_1 : decode c_T_mixedInto 1 = .ok (.lstore_n 3, 1) := by decide +kernel
theorem d_T_mixedInto_2 : decode c_T_mixedInto 2 = .ok (.iconst 0, 1) := by decide +kernel
theorem d_T_mixedInto_3 : decode c_T_mixedInto 3 = .ok (.istore 5, 2) := by decide +kernel
theorem d_T_mixedInto_5 : decode c_T_mixedInto 5 = .ok (.iload 5, 2) := by decide +kernel
theorem d_T_mixedInto_7 : decode c_T_mixedInto 7 = .ok (.bipush 8, 2) := by decide +kernel
theorem d_T_mixedInto_9 : decode c_T_mixedInto 9 = .ok (.if_icmp .ge 21, 3) := by decide +kernel
theorem d_T_mixedInto_12 : decode c_T_mixedInto 12 = .ok (.aload_n 0, 1) := by decide +kernel
theorem d_T_mixedInto_13 : decode c_T_mixedInto 13 = .ok (.getfield 11, 3) := by decide +kernel
theorem d_T_mixedInto_16 : decode c_T_mixedInto 16 = .ok (.iload 5, 2) := by decide +kernel
theorem d_T_mixedInto_18 : decode c_T_mixedInto 18 = .ok (.aaload, 1) := by decide +kernel
theorem d_T_mixedInto_19 : decode c_T_mixedInto 19 = .ok (.lload_n 3, 1) := by decide +kernel
theorem d_T_mixedInto_20 : decode c_T_mixedInto 20 = .ok (.invokevirtual 80, 3) := by decide +kernel
theorem d_T_mixedInto_23 : decode c_T_mixedInto 23 = .ok (.lstore_n 3, 1) := by decide +kernel
theorem d_T_mixedInto_24 : decode c_T_mixedInto 24 = .ok (.iinc 5 1, 3) := by decide +kernel
theorem d_T_mixedInto_27 : decode c_T_mixedInto 27 = .ok (.goto (-22), 3) := by decide +kernel
theorem d_T_mixedInto_30 : decode c_T_mixedInto 30 = .ok (.lload_n 3, 1) := by decide +kernel
theorem d_T_mixedInto_31 : decode c_T_mixedInto 31 = .ok (.aload_n 0, 1) := by decide +kernel
theorem d_T_mixedInto_32 : decode c_T_mixedInto 32 = .ok (.iconst (-1), 1) := by decide +kernel
theorem d_T_mixedInto_33 : decode c_T_mixedInto 33 = .ok (.iconst 0, 1) := by decide +kernel
theorem d_T_mixedInto_34 : decode c_T_mixedInto 34 = .ok (.invokevirtual 71, 3) := by decide +kernel
theorem d_T_mixedInto_37 : decode c_T_mixedInto 37 = .ok (.invokestatic 84, 3) := by decide +kernel
theorem d_T_mixedInto_40 : decode c_T_mixedInto 40 = .ok (.lstore_n 3, 1) := by decide +kernel
theorem d_T_mixedInto_41 : decode c_T_mixedInto 41 = .ok (.lload_n 3, 1) := by decide +kernel
theorem d_T_mixedInto_42 : decode c_T_mixedInto 42 = .ok (.aload_n 0, 1) := by decide +kernel
theorem d_T_mixedInto_43 : decode c_T_mixedInto 43 = .ok (.iconst (-1), 1) := by decide +kernel
theorem d_T_mixedInto_44 : decode c_T_mixedInto 44 = .ok (.iconst 1, 1) := by decide +kernel
theorem d_T_mixedInto_45 : decode c_T_mixedInto 45 = .ok (.invokevirtual 71, 3) := by decide +kernel
theorem d_T_mixedInto_48 : decode c_T_mixedInto 48 = .ok (.invokestatic 84, 3) := by decide +kernel
theorem d_T_mixedInto_51 : decode c_T_mixedInto 51 = .ok (.lreturn, 1) := by decide +kernel
theorem d_T_topHiddenAmount_0 : decode c_T_topHiddenAmount 0 = .ok (.sipush 1000, 3) := by decide +kernel
theorem d_T_topHiddenAmount_3 : decode c_T_topHiddenAmount 3 = .ok (.istore_n 1, 1) := by decide +kernel
theorem d_T_topHiddenAmount_4 : decode c_T_topHiddenAmount 4 = .ok (.iconst 0, 1) := by decide +kernel
theorem d_T_topHiddenAmount_5 : decode c_T_topHiddenAmount 5 = .ok (.istore_n 2, 1) := by decide +kernel
theorem d_T_topHiddenAmount_6 : decode c_T_topHiddenAmount 6 = .ok (.iload_n 2, 1) := by decide +kernel
theorem d_T_topHiddenAmount_7 : decode c_T_topHiddenAmount 7 = .ok (.aload_n 0, 1) := by decide +kernel
theorem d_T_topHiddenAmount_8 : decode c_T_topHiddenAmount 8 = .ok (.getfield 25, 3) := by decide +kernel
theorem d_T_topHiddenAmount_11 : decode c_T_topHiddenAmount 11 = .ok (.if_icmp .ge 38, 3) := by decide +kernel
theorem d_T_topHiddenAmount_14 : decode c_T_topHiddenAmount 14 = .ok (.aload_n 0, 1) := by decide +kernel
theorem d_T_topHiddenAmount_15 : decode c_T_topHiddenAmount 15 = .ok (.getfield 19, 3) := by decide +kernel
theorem d_T_topHiddenAmount_18 : decode c_T_topHiddenAmount 18 = .ok (.iload_n 2, 1) := by decide +kernel
theorem d_T_topHiddenAmount_19 : decode c_T_topHiddenAmount 19 = .ok (.aaload, 1) := by decide +kernel
theorem d_T_topHiddenAmount_20 : decode c_T_topHiddenAmount 20 = .ok (.getfield 58, 3) := by decide +kernel
theorem d_T_topHiddenAmount_23 : decode c_T_topHiddenAmount 23 = .ok (.iconst 3, 1) := by decide +kernel
theorem d_T_topHiddenAmount_24 : decode c_T_topHiddenAmount 24 = .ok (.if_icmp .ne 19, 3) := by decide +kernel
theorem d_T_topHiddenAmount_27 : decode c_T_topHiddenAmount 27 = .ok (.iload_n 1, 1) := by decide +kernel
theorem d_T_topHiddenAmount_28 : decode c_T_topHiddenAmount 28 = .ok (.aload_n 0, 1) := by decide +kernel
theorem d_T_topHiddenAmount_29 : decode c_T_topHiddenAmount 29 = .ok (.getfield 19, 3) := by decide +kernel
theorem d_T_topHiddenAmount_32 : decode c_T_topHiddenAmount 32 = .ok (.iload_n 2, 1) := by decide +kernel
theorem d_T_topHiddenAmount_33 : decode c_T_topHiddenAmount 33 = .ok (.aaload, 1) := by decide +kernel
theorem d_T_topHiddenAmount_34 : decode c_T_topHiddenAmount 34 = .ok (.getfield 61, 3) := by decide +kernel
theorem d_T_topHiddenAmount_37 : decode c_T_topHiddenAmount 37 = .ok (.iconst 1, 1) := by decide +kernel
theorem d_T_topHiddenAmount_38 : decode c_T_topHiddenAmount 38 = .ok (.isub, 1) := by decide +kernel
theorem d_T_topHiddenAmount_39 : decode c_T_topHiddenAmount 39 = .ok (.invokestatic 88, 3) := by decide +kernel
theorem d_T_topHiddenAmount_42 : decode c_T_topHiddenAmount 42 = .ok (.istore_n 1, 1) := by decide +kernel
theorem d_T_topHiddenAmount_43 : decode c_T_topHiddenAmount 43 = .ok (.iinc 2 1, 3) := by decide +kernel
theorem d_T_topHiddenAmount_46 : decode c_T_topHiddenAmount 46 = .ok (.goto (-40), 3) := by decide +kernel
theorem d_T_topHiddenAmount_49 : decode c_T_topHiddenAmount 49 = .ok (.iload_n 1, 1) := by decide +kernel
theorem d_T_topHiddenAmount_50 : decode c_T_topHiddenAmount 50 = .ok (.ireturn, 1) := by decide +kernel
theorem d_T_keepRows_0 : decode c_T_keepRows 0 = .ok (.iconst 0, 1) := by decide +kernel
theorem d_T_keepRows_1 : decode c_T_keepRows 1 = .ok (.istore_n 2, 1) := by decide +kernel
theorem d_T_keepRows_2 : decode c_T_keepRows 2 = .ok (.iload_n 2, 1) := by decide +kernel
theorem d_T_keepRows_3 : decode c_T_keepRows 3 = .ok (.aload_n 1, 1) := by decide +kernel
theorem d_T_keepRows_4 : decode c_T_keepRows 4 = .ok (.getfield 52, 3) := by decide +kernel
theorem d_T_keepRows_7 : decode c_T_keepRows 7 = .ok (.if_icmp .ge 23, 3) := by decide +kernel
theorem d_T_keepRows_10 : decode c_T_keepRows 10 = .ok (.aload_n 0, 1) := by decide +kernel
theorem d_T_keepRows_11 : decode c_T_keepRows 11 = .ok (.aload_n 1, 1) := by decide +kernel
theorem d_T_keepRows_12 : decode c_T_keepRows 12 = .ok (.iload_n 2, 1) := by decide +kernel
theorem d_T_keepRows_13 : decode c_T_keepRows 13 = .ok (.invokevirtual 93, 3) := by decide +kernel
theorem d_T_keepRows_16 : decode c_T_keepRows 16 = .ok (.ifCond .eq 8, 3) := by decide +kernel
theorem d_T_keepRows_19 : decode c_T_keepRows 19 = .ok (.aload_n 1, 1) := by decide +kernel
theorem d_T_keepRows_20 : decode c_T_keepRows 20 = .ok (.iload_n 2, 1) := by decide +kernel
theorem d_T_keepRows_21 : decode c_T_keepRows 21 = .ok (.invokevirtual 97, 3) := by decide +kernel
theorem d_T_keepRows_24 : decode c_T_keepRows 24 = .ok (.iinc 2 1, 3) := by decide +kernel
theorem d_T_keepRows_27 : decode c_T_keepRows 27 = .ok (.goto (-25), 3) := by decide +kernel
theorem d_T_keepRows_30 : decode c_T_keepRows 30 = .ok (.return_, 1) := by decide +kernel
theorem d_T_isKept_0 : decode c_T_isKept 0 = .ok (.iconst 0, 1) := by decide +kernel
theorem d_T_isKept_1 : decode c_T_isKept 1 = .ok (.istore_n 3, 1) := by decide +kernel
theorem d_T_isKept_2 : decode c_T_isKept 2 = .ok (.iload_n 3, 1) := by decide +kernel
theorem d_T_isKept_3 : decode c_T_isKept 3 = .ok (.aload_n 0, 1) := by decide +kernel
theorem d_T_isKept_4 : decode c_T_isKept 4 = .ok (.getfield 25, 3) := by decide +kernel
theorem d_T_isKept_7 : decode c_T_isKept 7 = .ok (.if_icmp .ge 25, 3) := by decide +kernel
theorem d_T_isKept_10 : decode c_T_isKept 10 = .ok (.aload_n 0, 1) := by decide +kernel
theorem d_T_isKept_11 : decode c_T_isKept 11 = .ok (.getfield 19, 3) := by decide +kernel
theorem d_T_isKept_14 : decode c_T_isKept 14 = .ok (.iload_n 3, 1) := by decide +kernel
theorem d_T_isKept_15 : decode c_T_isKept 15 = .ok (.aaload, 1) := by decide +kernel
theorem d_T_isKept_16 : decode c_T_isKept 16 = .ok (.aload_n 1, 1) := by decide +kernel
theorem d_T_isKept_17 : decode c_T_isKept 17 = .ok (.iload_n 2, 1) := by decide +kernel
theorem d_T_isKept_18 : decode c_T_isKept 18 = .ok (.invokevirtual 100, 3) := by decide +kernel
theorem d_T_isKept_21 : decode c_T_isKept 21 = .ok (.ifCond .eq 5, 3) := by decide +kernel
theorem d_T_isKept_24 : decode c_T_isKept 24 = .ok (.iconst 1, 1) := by decide +kernel
theorem d_T_isKept_25 : decode c_T_isKept 25 = .ok (.ireturn, 1) := by decide +kernel
theorem d_T_isKept_26 : decode c_T_isKept 26 = .ok (.iinc 3 1, 3) := by decide +kernel
theorem d_T_isKept_29 : decode c_T_isKept 29 = .ok (.goto (-27), 3) := by decide +kernel
theorem d_T_isKept_32 : decode c_T_isKept 32 = .ok (.iconst 0, 1) := by decide +kernel
theorem d_T_isKept_33 : decode c_T_isKept 33 = .ok (.ireturn, 1) := by decide +kernel
theorem d_C_init_0 : decode c_C_init 0 = .ok (.aload_n 0, 1) := by decide +kernel
theorem d_C_init_1 : decode c_C_init 1 = .ok (.invokespecial 1, 3) := by decide +kernel
theorem d_C_init_4 : decode c_C_init 4 = .ok (.aload_n 0, 1) := by decide +kernel
theorem d_C_init_5 : decode c_C_init 5 = .ok (.iconst 2, 1) := by decide +kernel
theorem d_C_init_6 : decode c_C_init 6 = .ok (.anewarray 9, 3) := by decide +kernel
theorem d_C_init_9 : decode c_C_init 9 = .ok (.putfield 11, 3) := by decide +kernel
theorem d_C_init_12 : decode c_C_init 12 = .ok (.aload_n 0, 1) := by decide +kernel
theorem d_C_init_13 : decode c_C_init 13 = .ok (.iconst 4, 1) := by decide +kernel
theorem d_C_init_14 : decode c_C_init 14 = .ok (.anewarray 15, 3) := by decide +kernel
theorem d_C_init_17 : decode c_C_init 17 = .ok (.putfield 17, 3) := by decide +kernel
theorem d_C_init_20 : decode c_C_init 20 = .ok (.aload_n 0, 1) := by decide +kernel
theorem d_C_init_21 : decode c_C_init 21 = .ok (.bipush 100, 2) := by decide +kernel
theorem d_C_init_23 : decode c_C_init 23 = .ok (.newarray .int, 2) := by decide +kernel
theorem d_C_init_25 : decode c_C_init 25 = .ok (.putfield 21, 3) := by decide +kernel
theorem d_C_init_28 : decode c_C_init 28 = .ok (.iconst 0, 1) := by decide +kernel
theorem d_C_init_29 : decode c_C_init 29 = .ok (.istore_n 1, 1) := by decide +kernel
theorem d_C_init_30 : decode c_C_init 30 = .ok (.iload_n 1, 1) := by decide +kernel
theorem d_C_init_31 : decode c_C_init 31 = .ok (.iconst 2, 1) := by decide +kernel
theorem d_C_init_32 : decode c_C_init 32 = .ok (.if_icmp .ge 22, 3) := by decide +kernel
theorem d_C_init_35 : decode c_C_init 35 = .ok (.aload_n 0, 1) := by decide +kernel
theorem d_C_init_36 : decode c_C_init 36 = .ok (.getfield 11, 3) := by decide +kernel
theorem d_C_init_39 : decode c_C_init 39 = .ok (.iload_n 1, 1) := by decide +kernel
theorem d_C_init_40 : decode c_C_init 40 = .ok (.new 9, 3) := by decide +kernel
theorem d_C_init_43 : decode c_C_init 43 = .ok (.dup, 1) := by decide +kernel
theorem d_C_init_44 : decode c_C_init 44 = .ok (.invokespecial 25, 3) := by decide +kernel
theorem d_C_init_47 : decode c_C_init 47 = .ok (.aastore, 1) := by decide +kernel
theorem d_C_init_48 : decode c_C_init 48 = .ok (.iinc 1 1, 3) := by decide +kernel
theorem d_C_init_51 : decode c_C_init 51 = .ok (.goto (-21), 3) := by decide +kernel
theorem d_C_init_54 : decode c_C_init 54 = .ok (.iconst 0, 1) := by decide +kernel
theorem d_C_init_55 : decode c_C_init 55 = .ok (.istore_n 1, 1) := by decide +kernel
theorem d_C_init_56 : decode c_C_init 56 = .ok (.iload_n 1, 1) := by decide +kernel
theorem d_C_init_57 : decode c_C_init 57 = .ok (.iconst 4, 1) := by decide +kernel
theorem d_C_init_58 : decode c_C_init 58 = .ok (.if_icmp .ge 22, 3) := by decide +kernel
theorem d_C_init_61 : decode c_C_init 61 = .ok (.aload_n 0, 1) := by decide +kernel
theorem d_C_init_62 : decode c_C_init 62 = .ok (.getfield 17, 3) := by decide +kernel
theorem d_C_init_65 : decode c_C_init 65 = .ok (.iload_n 1, 1) := by decide +kernel
theorem d_C_init_66 : decode c_C_init 66 = .ok (.new 15, 3) := by decide +kernel
theorem d_C_init_69 : decode c_C_init 69 = .ok (.dup, 1) := by decide +kernel
theorem d_C_init_70 : decode c_C_init 70 = .ok (.invokespecial 26, 3) := by decide +kernel
theorem d_C_init_73 : decode c_C_init 73 = .ok (.aastore, 1) := by decide +kernel
theorem d_C_init_74 : decode c_C_init 74 = .ok (.iinc 1 1, 3) := by decide +kernel
theorem d_C_init_77 : decode c_C_init 77 = .ok (.goto (-21), 3) := by decide +kernel
theorem d_C_init_80 : decode c_C_init 80 = .ok (.return_, 1) := by decide +kernel
theorem d_C_row_0 : decode c_C_row 0 = .ok (.aload_n 0, 1) := by decide +kernel
theorem d_C_row_1 : decode c_C_row 1 = .ok (.iload_n 1, 1) := by decide +kernel
theorem d_C_row_2 : decode c_C_row 2 = .ok (.invokevirtual 27, 3) := by decide +kernel
theorem d_C_row_5 : decode c_C_row 5 = .ok (.astore 6, 2) := by decide +kernel
theorem d_C_row_7 : decode c_C_row 7 = .ok (.aload 6, 2) := by decide +kernel
theorem d_C_row_9 : decode c_C_row 9 = .ok (.iload_n 2, 1) := by decide +kernel
theorem d_C_row_10 : decode c_C_row 10 = .ok (.invokestatic 31, 3) := by decide +kernel
theorem d_C_row_13 : decode c_C_row 13 = .ok (.astore 7, 2) := by decide +kernel
theorem d_C_row_15 : decode c_C_row 15 = .ok (.aload 7, 2) := by decide +kernel
theorem d_C_row_17 : decode c_C_row 17 = .ok (.ifnull 14, 3) := by decide +kernel
theorem d_C_row_20 : decode c_C_row 20 = .ok (.iload_n 3, 1) := by decide +kernel
theorem d_C_row_21 : decode c_C_row 21 = .ok (.iload 4, 2) := by decide +kernel
theorem d_C_row_23 : decode c_C_row 23 = .ok (.iload 5, 2) := by decide +kernel
theorem d_C_row_25 : decode c_C_row 25 = .ok (.invokestatic 35, 3) := by decide +kernel
theorem d_C_row_28 : decode c_C_row 28 = .ok (.ifCond .ne 6, 3) := by decide +kernel
theorem d_C_row_31 : decode c_C_row 31 = .ok (.bipush (-2), 2) := by decide +kernel
theorem d_C_row_33 : decode c_C_row 33 = .ok (.ireturn, 1) := by decide +kernel
theorem d_C_row_34 : decode c_C_row 34 = .ok (.aload 6, 2) := by decide +kernel
theorem d_C_row_36 : decode c_C_row 36 = .ok (.getfield 39, 3) := by decide +kernel
theorem d_C_row_39 : decode c_C_row 39 = .ok (.ifCond .eq 6, 3) := by decide +kernel
theorem d_C_row_42 : decode c_C_row 42 = .ok (.bipush (-3), 2) := by decide +kernel
theorem d_C_row_44 : decode c_C_row 44 = .ok (.ireturn, 1) := by decide +kernel
theorem d_C_row_45 : decode c_C_row 45 = .ok (.aload 7, 2) := by decide +kernel
theorem d_C_row_47 : decode c_C_row 47 = .ok (.getfield 43, 3) := by decide +kernel
theorem d_C_row_50 : decode c_C_row 50 = .ok (.bipush 12, 2) := by decide +kernel
theorem d_C_row_52 : decode c_C_row 52 = .ok (.if_icmp .lt 6, 3) := by decide +kernel
theorem d_C_row_55 : decode c_C_row 55 = .ok (.bipush (-4), 2) := by decide +kernel
theorem d_C_row_57 : decode c_C_row 57 = .ok (.ireturn, 1) := by decide +kernel
theorem d_C_row_58 : decode c_C_row 58 = .ok (.aload 7, 2) := by decide +kernel
theorem d_C_row_60 : decode c_C_row 60 = .ok (.iload_n 3, 1) := by decide +kernel
theorem d_C_row_61 : decode c_C_row 61 = .ok (.iload 4, 2) := by decide +kernel
theorem d_C_row_63 : decode c_C_row 63 = .ok (.iload 5, 2) := by decide +kernel
theorem d_C_row_65 : decode c_C_row 65 = .ok (.invokevirtual 49, 3) := by decide +kernel
theorem d_C_row_68 : decode c_C_row 68 = .ok (.aload 7, 2) := by decide +kernel
theorem d_C_row_70 : decode c_C_row 70 = .ok (.getfield 43, 3) := by decide +kernel
theorem d_C_row_73 : decode c_C_row 73 = .ok (.iconst 1, 1) := by decide +kernel
theorem d_C_row_74 : decode c_C_row 74 = .ok (.isub, 1) := by decide +kernel
theorem d_C_row_75 : decode c_C_row 75 = .ok (.ireturn, 1) := by decide +kernel
theorem d_C_load_0 : decode c_C_load 0 = .ok (.aload_n 0, 1) := by decide +kernel
theorem d_C_load_1 : decode c_C_load 1 = .ok (.iload_n 1, 1) := by decide +kernel
theorem d_C_load_2 : decode c_C_load 2 = .ok (.invokevirtual 27, 3) := by decide +kernel
theorem d_C_load_5 : decode c_C_load 5 = .ok (.astore 7, 2) := by decide +kernel
theorem d_C_load_7 : decode c_C_load 7 = .ok (.aload 7, 2) := by decide +kernel
theorem d_C_load_9 : decode c_C_load 9 = .ok (.iload_n 2, 1) := by decide +kernel
theorem d_C_load_10 : decode c_C_load 10 = .ok (.invokestatic 31, 3) := by decide +kernel
theorem d_C_load_13 : decode c_C_load 13 = .ok (.astore 8, 2) := by decide +kernel
theorem d_C_load_15 : decode c_C_load 15 = .ok (.aload_n 0, 1) := by decide +kernel
theorem d_C_load_16 : decode c_C_load 16 = .ok (.iload_n 3, 1) := by decide +kernel
theorem d_C_load_17 : decode c_C_load 17 = .ok (.invokevirtual 53, 3) := by decide +kernel
theorem d_C_load_20 : decode c_C_load 20 = .ok (.astore 9, 2) := by decide +kernel
theorem d_C_load_22 : decode c_C_load 22 = .ok (.aload_n 0, 1) := by decide +kernel
theorem d_C_load_23 : decode c_C_load 23 = .ok (.iload 4, 2) := by decide +kernel
theorem d_C_load_25 : decode c_C_load 25 = .ok (.invokevirtual 53, 3) := by decide +kernel
theorem d_C_load_28 : decode c_C_load 28 = .ok (.astore 10, 2) := by decide +kernel
theorem d_C_load_30 : decode c_C_load 30 = .ok (.aload_n 0, 1) := by decide +kernel
theorem d_C_load_31 : decode c_C_load 31 = .ok (.iload 5, 2) := by decide +kernel
theorem d_C_load_33 : decode c_C_load 33 = .ok (.invokevirtual 53, 3) := by decide +kernel
theorem d_C_load_36 : decode c_C_load 36 = .ok (.astore 11, 2) := by decide +kernel
theorem d_C_load_38 : decode c_C_load 38 = .ok (.aload 8, 2) := by decide +kernel
theorem d_C_load_40 : decode c_C_load 40 = .ok (.ifnull 31, 3) := by decide +kernel
theorem d_C_load_43 : decode c_C_load 43 = .ok (.aload 9, 2) := by decide +kernel
theorem d_C_load_45 : decode c_C_load 45 = .ok (.ifnull 26, 3) := by decide +kernel
theorem d_C_load_48 : decode c_C_load 48 = .ok (.aload 10, 2) := by decide +kernel
theorem d_C_load_50 : decode c_C_load 50 = .ok (.ifnull 21, 3) := by decide +kernel
theorem d_C_load_53 : decode c_C_load 53 = .ok (.aload 11, 2) := by decide +kernel
theorem d_C_load_55 : decode c_C_load 55 = .ok (.ifnull 16, 3) := by decide +kernel
theorem d_C_load_58 : decode c_C_load 58 = .ok (.iload 6, 2) := by decide +kernel
theorem d_C_load_60 : decode c_C_load 60 = .ok (.iconst 1, 1) := by decide +kernel
theorem d_C_load_61 : decode c_C_load 61 = .ok (.if_icmp .lt 10, 3) := by decide +kernel
theorem d_C_load_64 : decode c_C_load 64 = .ok (.iload 6, 2) := by decide +kernel
theorem d_C_load_66 : decode c_C_load 66 = .ok (.bipush 12, 2) := by decide +kernel
theorem d_C_load_68 : decode c_C_load 68 = .ok (.if_icmp .le 6, 3) := by decide +kernel
theorem d_C_load_71 : decode c_C_load 71 = .ok (.bipush (-2), 2) := by decide +kernel
theorem d_C_load_73 : decode c_C_load 73 = .ok (.ireturn, 1) := by decide +kernel
theorem d_C_load_74 : decode c_C_load 74 = .ok (.aload 7, 2) := by decide +kernel
theorem d_C_load_76 : decode c_C_load 76 = .ok (.getfield 39, 3) := by decide +kernel
theorem d_C_load_79 : decode c_C_load 79 = .ok (.ifCond .eq 6, 3) := by decide +kernel
theorem d_C_load_82 : decode c_C_load 82 = .ok (.bipush (-3), 2) := by decide +kernel
theorem d_C_load_84 : decode c_C_load 84 = .ok (.ireturn, 1) := by decide +kernel
theorem d_C_load_85 : decode c_C_load 85 = .ok (.aload 8, 2) := by decide +kernel
theorem d_C_load_87 : decode c_C_load 87 = .ok (.getfield 43, 3) := by decide +kernel
theorem d_C_load_90 : decode c_C_load 90 = .ok (.iload 6, 2) := by decide +kernel
theorem d_C_load_92 : decode c_C_load 92 = .ok (.iadd, 1) := by decide +kernel
theorem d_C_load_93 : decode c_C_load 93 = .ok (.bipush 12, 2) := by decide +kernel
theorem d_C_load_95 : decode c_C_load 95 = .ok (.if_icmp .le 6, 3) := by decide +kernel
theorem d_C_load_98 : decode c_C_load 98 = .ok (.bipush (-4), 2) := by decide +kernel
theorem d_C_load_100 : decode c_C_load 100 = .ok (.ireturn, 1) := by decide +kernel
theorem d_C_load_101 : decode c_C_load 101 = .ok (.aload 9, 2) := by decide +kernel
theorem d_C_load_103 : decode c_C_load 103 = .ok (.getfield 57, 3) := by decide +kernel
theorem d_C_load_106 : decode c_C_load 106 = .ok (.ifCond .ne 19, 3) := by decide +kernel
theorem d_C_load_109 : decode c_C_load 109 = .ok (.aload 10, 2) := by decide +kernel
theorem d_C_load_111 : decode c_C_load 111 = .ok (.getfield 57, 3) := by decide +kernel
theorem d_C_load_114 : decode c_C_load 114 = .ok (.ifCond .ne 11, 3) := by decide +kernel
theorem d_C_load_117 : decode c_C_load 117 = .ok (.aload 11, 2) := by decide +kernel
theorem d_C_load_119 : decode c_C_load 119 = .ok (.getfield 57, 3) := by decide +kernel
theorem d_C_load_122 : decode c_C_load 122 = .ok (.ifCond .eq 9, 3) := by decide +kernel
theorem d_C_load_125 : decode c_C_load 125 = .ok (.aload_n 0, 1) := by decide +kernel
theorem d_C_load_126 : decode c_C_load 126 = .ok (.iconst 1, 1) := by decide +kernel
theorem d_C_load_127 : decode c_C_load 127 = .ok (.invokevirtual 60, 3) := by decide +kernel
theorem d_C_load_130 : decode c_C_load 130 = .ok (.ireturn, 1) := by decide +kernel
theorem d_C_load_131 : decode c_C_load 131 = .ok (.aload 9, 2) := by decide +kernel
theorem d_C_load_133 : decode c_C_load 133 = .ok (.getfield 64, 3) := by decide +kernel
theorem d_C_load_136 : decode c_C_load 136 = .ok (.iload 6, 2) := by decide +kernel
theorem d_C_load_138 : decode c_C_load 138 = .ok (.if_icmp .lt 23, 3) := by decide +kernel
theorem d_C_load_141 : decode c_C_load 141 = .ok (.aload 10, 2) := by decide +kernel
theorem d_C_load_143 : decode c_C_load 143 = .ok (.getfield 64, 3) := by decide +kernel
theorem d_C_load_146 : decode c_C_load 146 = .ok (.iload 6, 2) := by decide +kernel
theorem d_C_load_148 : decode c_C_load 148 = .ok (.if_icmp .lt 13, 3) := by decide +kernel
theorem d_C_load_151 : decode c_C_load 151 = .ok (.aload 11, 2) := by decide +kernel
theorem d_C_load_153 : decode c_C_load 153 = .ok (.getfield 64, 3) := by decide +kernel
theorem d_C_load_156 : decode c_C_load 156 = .ok (.iload 6, 2) := by decide +kernel
theorem d_C_load_158 : decode c_C_load 158 = .ok (.if_icmp .ge 9, 3) := by decide +kernel
theorem d_C_load_161 : decode c_C_load 161 = .ok (.aload_n 0, 1) := by decide +kernel
theorem d_C_load_162 : decode c_C_load 162 = .ok (.iconst 2, 1) := by decide +kernel
theorem d_C_load_163 : decode c_C_load 163 = .ok (.invokevirtual 60, 3) := by decide +kernel
theorem d_C_load_166 : decode c_C_load 166 = .ok (.ireturn, 1) := by decide +kernel
theorem d_C_load_167 : decode c_C_load 167 = .ok (.iconst 0, 1) := by decide +kernel
theorem d_C_load_168 : decode c_C_load 168 = .ok (.istore 12, 2) := by decide +kernel
theorem d_C_load_170 : decode c_C_load 170 = .ok (.iload 12, 2) := by decide +kernel
theorem d_C_load_172 : decode c_C_load 172 = .ok (.iload 6, 2) := by decide +kernel
theorem d_C_load_174 : decode c_C_load 174 = .ok (.if_icmp .ge 42, 3) := by decide +kernel
theorem d_C_load_177 : decode c_C_load 177 = .ok (.aload 9, 2) := by decide +kernel
theorem d_C_load_179 : decode c_C_load 179 = .ok (.getfield 65, 3) := by decide +kernel
theorem d_C_load_182 : decode c_C_load 182 = .ok (.iload 12, 2) := by decide +kernel
theorem d_C_load_184 : decode c_C_load 184 = .ok (.iaload, 1) := by decide +kernel
theorem d_C_load_185 : decode c_C_load 185 = .ok (.aload 10, 2) := by decide +kernel
theorem d_C_load_187 : decode c_C_load 187 = .ok (.getfield 65, 3) := by decide +kernel
theorem d_C_load_190 : decode c_C_load 190 = .ok (.iload 12, 2) := by decide +kernel
theorem d_C_load_192 : decode c_C_load 192 = .ok (.iaload, 1) := by decide +kernel
theorem d_C_load_193 : decode c_C_load 193 = .ok (.aload 11, 2) := by decide +kernel
theorem d_C_load_195 : decode c_C_load 195 = .ok (.getfield 65, 3) := by decide +kernel
theorem d_C_load_198 : decode c_C_load 198 = .ok (.iload 12, 2) := by decide +kernel
theorem d_C_load_200 : decode c_C_load 200 = .ok (.iaload, 1) := by decide +kernel
theorem d_C_load_201 : decode c_C_load 201 = .ok (.invokestatic 35, 3) := by decide +kernel
theorem d_C_load_204 : decode c_C_load 204 = .ok (.ifCond .ne 6, 3) := by decide +kernel
theorem d_C_load_207 : decode c_C_load 207 = .ok (.bipush (-2), 2) := by decide +kernel
theorem d_C_load_209 : decode c_C_load 209 = .ok (.ireturn, 1) := by decide +kernel
theorem d_C_load_210 : decode c_C_load 210 = .ok (.iinc 12 1, 3) := by decide +kernel
theorem d_C_load_213 : decode c_C_load 213 = .ok (.goto (-43), 3) := by decide +kernel
theorem d_C_load_216 : decode c_C_load 216 = .ok (.iconst 0, 1) := by decide +kernel
theorem d_C_load_217 : decode c_C_load 217 = .ok (.istore 12, 2) := by decide +kernel
theorem d_C_load_219 : decode c_C_load 219 = .ok (.iload 12, 2) := by decide +kernel
theorem d_C_load_221 : decode c_C_load 221 = .ok (.iload 6, 2) := by decide +kernel
theorem d_C_load_223 : decode c_C_load 223 = .ok (.if_icmp .ge 38, 3) := by decide +kernel
theorem d_C_load_226 : decode c_C_load 226 = .ok (.aload 8, 2) := by decide +kernel
theorem d_C_load_228 : decode c_C_load 228 = .ok (.aload 9, 2) := by decide +kernel
theorem d_C_load_230 : decode c_C_load 230 = .ok (.getfield 65, 3) := by decide +kernel
theorem d_C_load_233 : decode c_C_load 233 = .ok (.iload 12, 2) := by decide +kernel
theorem d_C_load_235 : decode c_C_load 235 = .ok (.iaload, 1) := by decide +kernel
theorem d_C_load_236 : decode c_C_load 236 = .ok (.aload 10, 2) := by decide +kernel
theorem d_C_load_238 : decode c_C_load 238 = .ok (.getfield 65, 3) := by decide +kernel
theorem d_C_load_241 : decode c_C_load 241 = .ok (.iload 12, 2) := by decide +kernel
theorem d_C_load_243 : decode c_C_load 243 = .ok (.iaload, 1) := by decide +kernel
theorem d_C_load_244 : decode c_C_load 244 = .ok (.aload 11, 2) := by decide +kernel
theorem d_C_load_246 : decode c_C_load 246 = .ok (.getfield 65, 3) := by decide +kernel
theorem d_C_load_249 : decode c_C_load 249 = .ok (.iload 12, 2) := by decide +kernel
theorem d_C_load_251 : decode c_C_load 251 = .ok (.iaload, 1) := by decide +kernel
theorem d_C_load_252 : decode c_C_load 252 = .ok (.invokevirtual 49, 3) := by decide +kernel
theorem d_C_load_255 : decode c_C_load 255 = .ok (.iinc 12 1, 3) := by decide +kernel
theorem d_C_load_258 : decode c_C_load 258 = .ok (.goto (-39), 3) := by decide +kernel
theorem d_C_load_261 : decode c_C_load 261 = .ok (.aload 8, 2) := by decide +kernel
theorem d_C_load_263 : decode c_C_load 263 = .ok (.getfield 43, 3) := by decide +kernel
theorem d_C_load_266 : decode c_C_load 266 = .ok (.ireturn, 1) := by decide +kernel
theorem d_C_keeper_0 : decode c_C_keeper 0 = .ok (.aload_n 0, 1) := by decide +kernel
theorem d_C_keeper_1 : decode c_C_keeper 1 = .ok (.iload_n 1, 1) := by decide +kernel
theorem d_C_keeper_2 : decode c_C_keeper 2 = .ok (.invokevirtual 27, 3) := by decide +kernel
theorem d_C_keeper_5 : decode c_C_keeper 5 = .ok (.astore 5, 2) := by decide +kernel
theorem d_C_keeper_7 : decode c_C_keeper 7 = .ok (.aload 5, 2) := by decide +kernel
theorem d_C_keeper_9 : decode c_C_keeper 9 = .ok (.ifnull 13, 3) := by decide +kernel
theorem d_C_keeper_12 : decode c_C_keeper 12 = .ok (.iload_n 2, 1) := by decide +kernel
theorem d_C_keeper_13 : decode c_C_keeper 13 = .ok (.iload_n 3, 1) := by decide +kernel
theorem d_C_keeper_14 : decode c_C_keeper 14 = .ok (.iload 4, 2) := by decide +kernel
theorem d_C_keeper_16 : decode c_C_keeper 16 = .ok (.invokestatic 68, 3) := by decide +kernel
theorem d_C_keeper_19 : decode c_C_keeper 19 = .ok (.ifCond .ne 6, 3) := by decide +kernel
theorem d_C_keeper_22 : decode c_C_keeper 22 = .ok (.bipush (-2), 2) := by decide +kernel
theorem d_C_keeper_24 : decode c_C_keeper 24 = .ok (.ireturn, 1) := by decide +kernel
theorem d_C_keeper_25 : decode c_C_keeper 25 = .ok (.aload 5, 2) := by decide +kernel
theorem d_C_keeper_27 : decode c_C_keeper 27 = .ok (.getfield 39, 3) := by decide +kernel
theorem d_C_keeper_30 : decode c_C_keeper 30 = .ok (.ifCond .eq 6, 3) := by decide +kernel
theorem d_C_keeper_33 : decode c_C_keeper 33 = .ok (.bipush (-3), 2) := by decide +kernel
theorem d_C_keeper_35 : decode c_C_keeper 35 = .ok (.ireturn, 1) := by decide +kernel
theorem d_C_keeper_36 : decode c_C_keeper 36 = .ok (.aload 5, 2) := by decide +kernel
theorem d_C_keeper_38 : decode c_C_keeper 38 = .ok (.getfield 71, 3) := by decide +kernel
theorem d_C_keeper_41 : decode c_C_keeper 41 = .ok (.iconst 4, 1) := by decide +kernel
theorem d_C_keeper_42 : decode c_C_keeper 42 = .ok (.if_icmp .lt 6, 3) := by decide +kernel
theorem d_C_keeper_45 : decode c_C_keeper 45 = .ok (.bipush (-4), 2) := by decide +kernel
theorem d_C_keeper_47 : decode c_C_keeper 47 = .ok (.ireturn, 1) := by decide +kernel
theorem d_C_keeper_48 : decode c_C_keeper 48 = .ok (.aload 5, 2) := by decide +kernel
theorem d_C_keeper_50 : decode c_C_keeper 50 = .ok (.iload_n 2, 1) := by decide +kernel
theorem d_C_keeper_51 : decode c_C_keeper 51 = .ok (.iload_n 3, 1) := by decide +kernel
theorem d_C_keeper_52 : decode c_C_keeper 52 = .ok (.iload 4, 2) := by decide +kernel
theorem d_C_keeper_54 : decode c_C_keeper 54 = .ok (.invokevirtual 74, 3) := by decide +kernel
theorem d_C_keeper_57 : decode c_C_keeper 57 = .ok (.aload 5, 2) := by decide +kernel
theorem d_C_keeper_59 : decode c_C_keeper 59 = .ok (.getfield 71, 3) := by decide +kernel
theorem d_C_keeper_62 : decode c_C_keeper 62 = .ok (.ireturn, 1) := by decide +kernel
theorem d_C_seal_0 : decode c_C_seal 0 = .ok (.aload_n 0, 1) := by decide +kernel
theorem d_C_seal_1 : decode c_C_seal 1 = .ok (.iload_n 1, 1) := by decide +kernel
theorem d_C_seal_2 : decode c_C_seal 2 = .ok (.invokevirtual 27, 3) := by decide +kernel
theorem d_C_seal_5 : decode c_C_seal 5 = .ok (.astore_n 2, 1) := by decide +kernel
theorem d_C_seal_6 : decode c_C_seal 6 = .ok (.aload_n 2, 1) := by decide +kernel
theorem d_C_seal_7 : decode c_C_seal 7 = .ok (.ifnonnull 6, 3) := by decide +kernel
theorem d_C_seal_10 : decode c_C_seal 10 = .ok (.bipush (-2), 2) := by decide +kernel
theorem d_C_seal_12 : decode c_C_seal 12 = .ok (.ireturn, 1) := by decide +kernel
theorem d_C_seal_13 : decode c_C_seal 13 = .ok (.aload_n 2, 1) := by decide +kernel
theorem d_C_seal_14 : decode c_C_seal 14 = .ok (.getfield 39, 3) := by decide +kernel
theorem d_C_seal_17 : decode c_C_seal 17 = .ok (.ifCond .eq 6, 3) := by decide +kernel
theorem d_C_seal_20 : decode c_C_seal 20 = .ok (.bipush (-3), 2) := by decide +kernel
theorem d_C_seal_22 : decode c_C_seal 22 = .ok (.ireturn, 1) := by decide +kernel
theorem d_C_seal_23 : decode c_C_seal 23 = .ok (.aload_n 2, 1) := by decide +kernel
theorem d_C_seal_24 : decode c_C_seal 24 = .ok (.invokevirtual 77, 3) := by decide +kernel
theorem d_C_seal_27 : decode c_C_seal 27 = .ok (.aload_n 2, 1) := by decide +kernel
theorem d_C_seal_28 : decode c_C_seal 28 = .ok (.invokevirtual 80, 3) := by decide +kernel
theorem d_C_seal_31 : decode c_C_seal 31 = .ok (.ireturn, 1) := by decide +kernel
theorem d_C_clear_0 : decode c_C_clear 0 = .ok (.aload_n 0, 1) := by decide +kernel
theorem d_C_clear_1 : decode c_C_clear 1 = .ok (.iload_n 1, 1) := by decide +kernel
theorem d_C_clear_2 : decode c_C_clear 2 = .ok (.invokevirtual 27, 3) := by decide +kernel
theorem d_C_clear_5 : decode c_C_clear 5 = .ok (.astore_n 2, 1) := by decide +kernel
theorem d_C_clear_6 : decode c_C_clear 6 = .ok (.aload_n 2, 1) := by decide +kernel
theorem d_C_clear_7 : decode c_C_clear 7 = .ok (.ifnonnull 6, 3) := by decide +kernel
theorem d_C_clear_10 : decode c_C_clear 10 = .ok (.bipush (-2), 2) := by decide +kernel
theorem d_C_clear_12 : decode c_C_clear 12 = .ok (.ireturn, 1) := by decide +kernel
theorem d_C_clear_13 : decode c_C_clear 13 = .ok (.aload_n 2, 1) := by decide +kernel
theorem d_C_clear_14 : decode c_C_clear 14 = .ok (.invokevirtual 84, 3) := by decide +kernel
theorem d_C_clear_17 : decode c_C_clear 17 = .ok (.istore_n 3, 1) := by decide +kernel
theorem d_C_clear_18 : decode c_C_clear 18 = .ok (.aload_n 2, 1) := by decide +kernel
end
section
theorem d_C_clear_19 : decode c_C_clear 19 = .ok (.invokevirtual 87, 3) := by decide +kernel
theorem d_C_clear_22 : decode c_C_clear 22 = .ok (.iload_n 3, 1) := by decide +kernel
theorem d_C_clear_23 : decode c_C_clear 23 = .ok (.ireturn, 1) := by decide +kernel
theorem d_C_read_0 : decode c_C_read 0 = .ok (.aload_n 0, 1) := by decide +kernel
theorem d_C_read_1 : decode c_C_read 1 = .ok (.iload_n 1, 1) := by decide +kernel
theorem d_C_read_2 : decode c_C_read 2 = .ok (.invokevirtual 27, 3) := by decide +kernel
theorem d_C_read_5 : decode c_C_read 5 = .ok (.astore_n 3, 1) := by decide +kernel
theorem d_C_read_6 : decode c_C_read 6 = .ok (.aload_n 3, 1) := by decide +kernel
theorem d_C_read_7 : decode c_C_read 7 = .ok (.iload_n 2, 1) := by decide +kernel
theorem d_C_read_8 : decode c_C_read 8 = .ok (.invokestatic 31, 3) := by decide +kernel
theorem d_C_read_11 : decode c_C_read 11 = .ok (.astore 4, 2) := by decide +kernel
theorem d_C_read_13 : decode c_C_read 13 = .ok (.aload 4, 2) := by decide +kernel
theorem d_C_read_15 : decode c_C_read 15 = .ok (.ifnonnull 6, 3) := by decide +kernel
theorem d_C_read_18 : decode c_C_read 18 = .ok (.bipush (-2), 2) := by decide +kernel
theorem d_C_read_20 : decode c_C_read 20 = .ok (.ireturn, 1) := by decide +kernel
theorem d_C_read_21 : decode c_C_read 21 = .ok (.aload_n 3, 1) := by decide +kernel
theorem d_C_read_22 : decode c_C_read 22 = .ok (.getfield 39, 3) := by decide +kernel
theorem d_C_read_25 : decode c_C_read 25 = .ok (.ifCond .ne 6, 3) := by decide +kernel
theorem d_C_read_28 : decode c_C_read 28 = .ok (.bipush (-3), 2) := by decide +kernel
theorem d_C_read_30 : decode c_C_read 30 = .ok (.ireturn, 1) := by decide +kernel
theorem d_C_read_31 : decode c_C_read 31 = .ok (.aload_n 0, 1) := by decide +kernel
theorem d_C_read_32 : decode c_C_read 32 = .ok (.aload 4, 2) := by decide +kernel
theorem d_C_read_34 : decode c_C_read 34 = .ok (.invokevirtual 90, 3) := by decide +kernel
theorem d_C_read_37 : decode c_C_read 37 = .ok (.ireturn, 1) := by decide +kernel
theorem d_C_change_0 : decode c_C_change 0 = .ok (.aload_n 0, 1) := by decide +kernel
theorem d_C_change_1 : decode c_C_change 1 = .ok (.iload_n 1, 1) := by decide +kernel
theorem d_C_change_2 : decode c_C_change 2 = .ok (.invokevirtual 27, 3) := by decide +kernel
theorem d_C_change_5 : decode c_C_change 5 = .ok (.astore 5, 2) := by decide +kernel
theorem d_C_change_7 : decode c_C_change 7 = .ok (.aload 5, 2) := by decide +kernel
theorem d_C_change_9 : decode c_C_change 9 = .ok (.iload_n 2, 1) := by decide +kernel
theorem d_C_change_10 : decode c_C_change 10 = .ok (.invokestatic 31, 3) := by decide +kernel
theorem d_C_change_13 : decode c_C_change 13 = .ok (.astore 6, 2) := by decide +kernel
theorem d_C_change_15 : decode c_C_change 15 = .ok (.aload 6, 2) := by decide +kernel
theorem d_C_change_17 : decode c_C_change 17 = .ok (.ifnull 20, 3) := by decide +kernel
theorem d_C_change_20 : decode c_C_change 20 = .ok (.aload 6, 2) := by decide +kernel
theorem d_C_change_22 : decode c_C_change 22 = .ok (.iload_n 3, 1) := by decide +kernel
theorem d_C_change_23 : decode c_C_change 23 = .ok (.invokevirtual 94, 3) := by decide +kernel
theorem d_C_change_26 : decode c_C_change 26 = .ok (.ifCond .eq 11, 3) := by decide +kernel
theorem d_C_change_29 : decode c_C_change 29 = .ok (.iload 4, 2) := by decide +kernel
theorem d_C_change_31 : decode c_C_change 31 = .ok (.invokestatic 98, 3) := by decide +kernel
theorem d_C_change_34 : decode c_C_change 34 = .ok (.ifCond .ne 6, 3) := by decide +kernel
theorem d_C_change_37 : decode c_C_change 37 = .ok (.bipush (-2), 2) := by decide +kernel
theorem d_C_change_39 : decode c_C_change 39 = .ok (.ireturn, 1) := by decide +kernel
theorem d_C_change_40 : decode c_C_change 40 = .ok (.aload 5, 2) := by decide +kernel
theorem d_C_change_42 : decode c_C_change 42 = .ok (.getfield 39, 3) := by decide +kernel
theorem d_C_change_45 : decode c_C_change 45 = .ok (.ifCond .ne 6, 3) := by decide +kernel
theorem d_C_change_48 : decode c_C_change 48 = .ok (.bipush (-3), 2) := by decide +kernel
theorem d_C_change_50 : decode c_C_change 50 = .ok (.ireturn, 1) := by decide +kernel
theorem d_C_change_51 : decode c_C_change 51 = .ok (.aload 6, 2) := by decide +kernel
theorem d_C_change_53 : decode c_C_change 53 = .ok (.iload_n 3, 1) := by decide +kernel
theorem d_C_change_54 : decode c_C_change 54 = .ok (.iload 4, 2) := by decide +kernel
theorem d_C_change_56 : decode c_C_change 56 = .ok (.invokevirtual 101, 3) := by decide +kernel
theorem d_C_change_59 : decode c_C_change 59 = .ok (.iconst 1, 1) := by decide +kernel
theorem d_C_change_60 : decode c_C_change 60 = .ok (.ireturn, 1) := by decide +kernel
theorem d_C_value_0 : decode c_C_value 0 = .ok (.aload_n 0, 1) := by decide +kernel
theorem d_C_value_1 : decode c_C_value 1 = .ok (.iload_n 1, 1) := by decide +kernel
theorem d_C_value_2 : decode c_C_value 2 = .ok (.invokevirtual 27, 3) := by decide +kernel
theorem d_C_value_5 : decode c_C_value 5 = .ok (.astore 4, 2) := by decide +kernel
theorem d_C_value_7 : decode c_C_value 7 = .ok (.aload 4, 2) := by decide +kernel
theorem d_C_value_9 : decode c_C_value 9 = .ok (.iload_n 2, 1) := by decide +kernel
theorem d_C_value_10 : decode c_C_value 10 = .ok (.invokestatic 31, 3) := by decide +kernel
theorem d_C_value_13 : decode c_C_value 13 = .ok (.astore 5, 2) := by decide +kernel
theorem d_C_value_15 : decode c_C_value 15 = .ok (.aload 5, 2) := by decide +kernel
theorem d_C_value_17 : decode c_C_value 17 = .ok (.ifnull 30, 3) := by decide +kernel
theorem d_C_value_20 : decode c_C_value 20 = .ok (.aload 5, 2) := by decide +kernel
theorem d_C_value_22 : decode c_C_value 22 = .ok (.iload_n 3, 1) := by decide +kernel
theorem d_C_value_23 : decode c_C_value 23 = .ok (.invokevirtual 94, 3) := by decide +kernel
theorem d_C_value_26 : decode c_C_value 26 = .ok (.ifCond .eq 21, 3) := by decide +kernel
theorem d_C_value_29 : decode c_C_value 29 = .ok (.aload 4, 2) := by decide +kernel
theorem d_C_value_31 : decode c_C_value 31 = .ok (.getfield 39, 3) := by decide +kernel
theorem d_C_value_34 : decode c_C_value 34 = .ok (.ifCond .eq 13, 3) := by decide +kernel
theorem d_C_value_37 : decode c_C_value 37 = .ok (.aload 5, 2) := by decide +kernel
theorem d_C_value_39 : decode c_C_value 39 = .ok (.getfield 105, 3) := by decide +kernel
theorem d_C_value_42 : decode c_C_value 42 = .ok (.iload_n 3, 1) := by decide +kernel
theorem d_C_value_43 : decode c_C_value 43 = .ok (.baload, 1) := by decide +kernel
theorem d_C_value_44 : decode c_C_value 44 = .ok (.ifCond .ne 6, 3) := by decide +kernel
theorem d_C_value_47 : decode c_C_value 47 = .ok (.ldc 111, 2) := by decide +kernel
theorem d_C_value_49 : decode c_C_value 49 = .ok (.ireturn, 1) := by decide +kernel
theorem d_C_value_50 : decode c_C_value 50 = .ok (.aload 5, 2) := by decide +kernel
theorem d_C_value_52 : decode c_C_value 52 = .ok (.getfield 112, 3) := by decide +kernel
theorem d_C_value_55 : decode c_C_value 55 = .ok (.iload_n 3, 1) := by decide +kernel
theorem d_C_value_56 : decode c_C_value 56 = .ok (.iaload, 1) := by decide +kernel
theorem d_C_value_57 : decode c_C_value 57 = .ok (.ireturn, 1) := by decide +kernel
theorem d_C_about_0 : decode c_C_about 0 = .ok (.aload_n 0, 1) := by decide +kernel
theorem d_C_about_1 : decode c_C_about 1 = .ok (.iload_n 1, 1) := by decide +kernel
theorem d_C_about_2 : decode c_C_about 2 = .ok (.invokevirtual 27, 3) := by decide +kernel
theorem d_C_about_5 : decode c_C_about 5 = .ok (.astore 4, 2) := by decide +kernel
theorem d_C_about_7 : decode c_C_about 7 = .ok (.aload 4, 2) := by decide +kernel
theorem d_C_about_9 : decode c_C_about 9 = .ok (.iload_n 2, 1) := by decide +kernel
theorem d_C_about_10 : decode c_C_about 10 = .ok (.invokestatic 31, 3) := by decide +kernel
theorem d_C_about_13 : decode c_C_about 13 = .ok (.astore 5, 2) := by decide +kernel
theorem d_C_about_15 : decode c_C_about 15 = .ok (.aload 5, 2) := by decide +kernel
theorem d_C_about_17 : decode c_C_about 17 = .ok (.ifnull 18, 3) := by decide +kernel
theorem d_C_about_20 : decode c_C_about 20 = .ok (.iload_n 3, 1) := by decide +kernel
theorem d_C_about_21 : decode c_C_about 21 = .ok (.invokestatic 115, 3) := by decide +kernel
theorem d_C_about_24 : decode c_C_about 24 = .ok (.ifCond .eq 11, 3) := by decide +kernel
theorem d_C_about_27 : decode c_C_about 27 = .ok (.aload 4, 2) := by decide +kernel
theorem d_C_about_29 : decode c_C_about 29 = .ok (.getfield 39, 3) := by decide +kernel
theorem d_C_about_32 : decode c_C_about 32 = .ok (.ifCond .ne 6, 3) := by decide +kernel
theorem d_C_about_35 : decode c_C_about 35 = .ok (.ldc 111, 2) := by decide +kernel
theorem d_C_about_37 : decode c_C_about 37 = .ok (.ireturn, 1) := by decide +kernel
theorem d_C_about_38 : decode c_C_about 38 = .ok (.aload 5, 2) := by decide +kernel
theorem d_C_about_40 : decode c_C_about 40 = .ok (.iload_n 3, 1) := by decide +kernel
theorem d_C_about_41 : decode c_C_about 41 = .ok (.invokevirtual 118, 3) := by decide +kernel
theorem d_C_about_44 : decode c_C_about 44 = .ok (.ireturn, 1) := by decide +kernel
theorem d_C_sum_0 : decode c_C_sum 0 = .ok (.aload_n 0, 1) := by decide +kernel
theorem d_C_sum_1 : decode c_C_sum 1 = .ok (.iload_n 1, 1) := by decide +kernel
theorem d_C_sum_2 : decode c_C_sum 2 = .ok (.invokevirtual 27, 3) := by decide +kernel
theorem d_C_sum_5 : decode c_C_sum 5 = .ok (.astore 4, 2) := by decide +kernel
theorem d_C_sum_7 : decode c_C_sum 7 = .ok (.aload 4, 2) := by decide +kernel
theorem d_C_sum_9 : decode c_C_sum 9 = .ok (.ifnull 25, 3) := by decide +kernel
theorem d_C_sum_12 : decode c_C_sum 12 = .ok (.iload_n 2, 1) := by decide +kernel
theorem d_C_sum_13 : decode c_C_sum 13 = .ok (.invokestatic 121, 3) := by decide +kernel
theorem d_C_sum_16 : decode c_C_sum 16 = .ok (.ifCond .eq 18, 3) := by decide +kernel
theorem d_C_sum_19 : decode c_C_sum 19 = .ok (.iload_n 3, 1) := by decide +kernel
theorem d_C_sum_20 : decode c_C_sum 20 = .ok (.invokestatic 124, 3) := by decide +kernel
theorem d_C_sum_23 : decode c_C_sum 23 = .ok (.ifCond .eq 11, 3) := by decide +kernel
theorem d_C_sum_26 : decode c_C_sum 26 = .ok (.aload 4, 2) := by decide +kernel
theorem d_C_sum_28 : decode c_C_sum 28 = .ok (.getfield 39, 3) := by decide +kernel
theorem d_C_sum_31 : decode c_C_sum 31 = .ok (.ifCond .ne 7, 3) := by decide +kernel
theorem d_C_sum_34 : decode c_C_sum 34 = .ok (.ldc2_w 129, 3) := by decide +kernel
theorem d_C_sum_37 : decode c_C_sum 37 = .ok (.lreturn, 1) := by decide +kernel
theorem d_C_sum_38 : decode c_C_sum 38 = .ok (.aload 4, 2) := by decide +kernel
theorem d_C_sum_40 : decode c_C_sum 40 = .ok (.iload_n 2, 1) := by decide +kernel
theorem d_C_sum_41 : decode c_C_sum 41 = .ok (.iload_n 3, 1) := by decide +kernel
theorem d_C_sum_42 : decode c_C_sum 42 = .ok (.invokevirtual 131, 3) := by decide +kernel
theorem d_C_sum_45 : decode c_C_sum 45 = .ok (.lreturn, 1) := by decide +kernel
theorem d_C_count_0 : decode c_C_count 0 = .ok (.aload_n 0, 1) := by decide +kernel
theorem d_C_count_1 : decode c_C_count 1 = .ok (.iload_n 1, 1) := by decide +kernel
theorem d_C_count_2 : decode c_C_count 2 = .ok (.invokevirtual 27, 3) := by decide +kernel
theorem d_C_count_5 : decode c_C_count 5 = .ok (.astore 4, 2) := by decide +kernel
theorem d_C_count_7 : decode c_C_count 7 = .ok (.aload 4, 2) := by decide +kernel
theorem d_C_count_9 : decode c_C_count 9 = .ok (.ifnull 10, 3) := by decide +kernel
theorem d_C_count_12 : decode c_C_count 12 = .ok (.iload_n 3, 1) := by decide +kernel
theorem d_C_count_13 : decode c_C_count 13 = .ok (.invokestatic 124, 3) := by decide +kernel
theorem d_C_count_16 : decode c_C_count 16 = .ok (.ifCond .ne 6, 3) := by decide +kernel
theorem d_C_count_19 : decode c_C_count 19 = .ok (.bipush (-2), 2) := by decide +kernel
theorem d_C_count_21 : decode c_C_count 21 = .ok (.ireturn, 1) := by decide +kernel
theorem d_C_count_22 : decode c_C_count 22 = .ok (.aload 4, 2) := by decide +kernel
theorem d_C_count_24 : decode c_C_count 24 = .ok (.getfield 39, 3) := by decide +kernel
theorem d_C_count_27 : decode c_C_count 27 = .ok (.ifCond .ne 6, 3) := by decide +kernel
theorem d_C_count_30 : decode c_C_count 30 = .ok (.bipush (-3), 2) := by decide +kernel
theorem d_C_count_32 : decode c_C_count 32 = .ok (.ireturn, 1) := by decide +kernel
theorem d_C_count_33 : decode c_C_count 33 = .ok (.aload 4, 2) := by decide +kernel
theorem d_C_count_35 : decode c_C_count 35 = .ok (.iload_n 2, 1) := by decide +kernel
theorem d_C_count_36 : decode c_C_count 36 = .ok (.iload_n 3, 1) := by decide +kernel
theorem d_C_count_37 : decode c_C_count 37 = .ok (.invokevirtual 135, 3) := by decide +kernel
theorem d_C_count_40 : decode c_C_count 40 = .ok (.ireturn, 1) := by decide +kernel
theorem d_C_join_0 : decode c_C_join 0 = .ok (.iload_n 1, 1) := by decide +kernel
theorem d_C_join_1 : decode c_C_join 1 = .ok (.invokestatic 124, 3) := by decide +kernel
theorem d_C_join_4 : decode c_C_join 4 = .ok (.ifCond .ne 6, 3) := by decide +kernel
theorem d_C_join_7 : decode c_C_join 7 = .ok (.bipush (-2), 2) := by decide +kernel
theorem d_C_join_9 : decode c_C_join 9 = .ok (.ireturn, 1) := by decide +kernel
theorem d_C_join_10 : decode c_C_join 10 = .ok (.aload_n 0, 1) := by decide +kernel
theorem d_C_join_11 : decode c_C_join 11 = .ok (.getfield 11, 3) := by decide +kernel
theorem d_C_join_14 : decode c_C_join 14 = .ok (.iconst 0, 1) := by decide +kernel
theorem d_C_join_15 : decode c_C_join 15 = .ok (.aaload, 1) := by decide +kernel
theorem d_C_join_16 : decode c_C_join 16 = .ok (.astore_n 2, 1) := by decide +kernel
theorem d_C_join_17 : decode c_C_join 17 = .ok (.aload_n 0, 1) := by decide +kernel
theorem d_C_join_18 : decode c_C_join 18 = .ok (.getfield 11, 3) := by decide +kernel
theorem d_C_join_21 : decode c_C_join 21 = .ok (.iconst 1, 1) := by decide +kernel
theorem d_C_join_22 : decode c_C_join 22 = .ok (.aaload, 1) := by decide +kernel
theorem d_C_join_23 : decode c_C_join 23 = .ok (.astore_n 3, 1) := by decide +kernel
theorem d_C_join_24 : decode c_C_join 24 = .ok (.aload_n 2, 1) := by decide +kernel
theorem d_C_join_25 : decode c_C_join 25 = .ok (.getfield 39, 3) := by decide +kernel
theorem d_C_join_28 : decode c_C_join 28 = .ok (.ifCond .eq 10, 3) := by decide +kernel
theorem d_C_join_31 : decode c_C_join 31 = .ok (.aload_n 3, 1) := by decide +kernel
theorem d_C_join_32 : decode c_C_join 32 = .ok (.getfield 39, 3) := by decide +kernel
theorem d_C_join_35 : decode c_C_join 35 = .ok (.ifCond .ne 6, 3) := by decide +kernel
theorem d_C_join_38 : decode c_C_join 38 = .ok (.bipush (-3), 2) := by decide +kernel
theorem d_C_join_40 : decode c_C_join 40 = .ok (.ireturn, 1) := by decide +kernel
theorem d_C_join_41 : decode c_C_join 41 = .ok (.aload_n 0, 1) := by decide +kernel
theorem d_C_join_42 : decode c_C_join 42 = .ok (.aload_n 2, 1) := by decide +kernel
theorem d_C_join_43 : decode c_C_join 43 = .ok (.aload_n 3, 1) := by decide +kernel
theorem d_C_join_44 : decode c_C_join 44 = .ok (.iconst 1, 1) := by decide +kernel
theorem d_C_join_45 : decode c_C_join 45 = .ok (.iconst 0, 1) := by decide +kernel
theorem d_C_join_46 : decode c_C_join 46 = .ok (.invokevirtual 139, 3) := by decide +kernel
theorem d_C_join_49 : decode c_C_join 49 = .ok (.istore 4, 2) := by decide +kernel
theorem d_C_join_51 : decode c_C_join 51 = .ok (.iload_n 1, 1) := by decide +kernel
theorem d_C_join_52 : decode c_C_join 52 = .ok (.ifCond .ne 6, 3) := by decide +kernel
theorem d_C_join_55 : decode c_C_join 55 = .ok (.iload 4, 2) := by decide +kernel
theorem d_C_join_57 : decode c_C_join 57 = .ok (.ireturn, 1) := by decide +kernel
theorem d_C_join_58 : decode c_C_join 58 = .ok (.aload_n 2, 1) := by decide +kernel
theorem d_C_join_59 : decode c_C_join 59 = .ok (.invokevirtual 84, 3) := by decide +kernel
theorem d_C_join_62 : decode c_C_join 62 = .ok (.aload_n 2, 1) := by decide +kernel
theorem d_C_join_63 : decode c_C_join 63 = .ok (.invokevirtual 80, 3) := by decide +kernel
theorem d_C_join_66 : decode c_C_join 66 = .ok (.isub, 1) := by decide +kernel
theorem d_C_join_67 : decode c_C_join 67 = .ok (.istore 5, 2) := by decide +kernel
theorem d_C_join_69 : decode c_C_join 69 = .ok (.aload_n 3, 1) := by decide +kernel
theorem d_C_join_70 : decode c_C_join 70 = .ok (.invokevirtual 84, 3) := by decide +kernel
theorem d_C_join_73 : decode c_C_join 73 = .ok (.aload_n 3, 1) := by decide +kernel
theorem d_C_join_74 : decode c_C_join 74 = .ok (.invokevirtual 80, 3) := by decide +kernel
theorem d_C_join_77 : decode c_C_join 77 = .ok (.isub, 1) := by decide +kernel
theorem d_C_join_78 : decode c_C_join 78 = .ok (.istore 6, 2) := by decide +kernel
theorem d_C_join_80 : decode c_C_join 80 = .ok (.iload 4, 2) := by decide +kernel
theorem d_C_join_82 : decode c_C_join 82 = .ok (.iload 5, 2) := by decide +kernel
theorem d_C_join_84 : decode c_C_join 84 = .ok (.aload_n 3, 1) := by decide +kernel
theorem d_C_join_85 : decode c_C_join 85 = .ok (.invokevirtual 84, 3) := by decide +kernel
theorem d_C_join_88 : decode c_C_join 88 = .ok (.imul, 1) := by decide +kernel
theorem d_C_join_89 : decode c_C_join 89 = .ok (.iadd, 1) := by decide +kernel
theorem d_C_join_90 : decode c_C_join 90 = .ok (.aload_n 2, 1) := by decide +kernel
theorem d_C_join_91 : decode c_C_join 91 = .ok (.invokevirtual 80, 3) := by decide +kernel
theorem d_C_join_94 : decode c_C_join 94 = .ok (.iload 6, 2) := by decide +kernel
theorem d_C_join_96 : decode c_C_join 96 = .ok (.imul, 1) := by decide +kernel
theorem d_C_join_97 : decode c_C_join 97 = .ok (.iadd, 1) := by decide +kernel
theorem d_C_join_98 : decode c_C_join 98 = .ok (.ireturn, 1) := by decide +kernel
theorem d_C_part_0 : decode c_C_part 0 = .ok (.iload_n 1, 1) := by decide +kernel
theorem d_C_part_1 : decode c_C_part 1 = .ok (.iload_n 2, 1) := by decide +kernel
theorem d_C_part_2 : decode c_C_part 2 = .ok (.invokestatic 143, 3) := by decide +kernel
theorem d_C_part_5 : decode c_C_part 5 = .ok (.ifCond .ne 6, 3) := by decide +kernel
theorem d_C_part_8 : decode c_C_part 8 = .ok (.bipush (-2), 2) := by decide +kernel
theorem d_C_part_10 : decode c_C_part 10 = .ok (.ireturn, 1) := by decide +kernel
theorem d_C_part_11 : decode c_C_part 11 = .ok (.aload_n 0, 1) := by decide +kernel
theorem d_C_part_12 : decode c_C_part 12 = .ok (.getfield 11, 3) := by decide +kernel
theorem d_C_part_15 : decode c_C_part 15 = .ok (.iconst 0, 1) := by decide +kernel
theorem d_C_part_16 : decode c_C_part 16 = .ok (.aaload, 1) := by decide +kernel
theorem d_C_part_17 : decode c_C_part 17 = .ok (.astore_n 3, 1) := by decide +kernel
theorem d_C_part_18 : decode c_C_part 18 = .ok (.aload_n 0, 1) := by decide +kernel
theorem d_C_part_19 : decode c_C_part 19 = .ok (.getfield 11, 3) := by decide +kernel
theorem d_C_part_22 : decode c_C_part 22 = .ok (.iconst 1, 1) := by decide +kernel
theorem d_C_part_23 : decode c_C_part 23 = .ok (.aaload, 1) := by decide +kernel
theorem d_C_part_24 : decode c_C_part 24 = .ok (.astore 4, 2) := by decide +kernel
theorem d_C_part_26 : decode c_C_part 26 = .ok (.aload_n 3, 1) := by decide +kernel
theorem d_C_part_27 : decode c_C_part 27 = .ok (.getfield 39, 3) := by decide +kernel
theorem d_C_part_30 : decode c_C_part 30 = .ok (.ifCond .eq 11, 3) := by decide +kernel
theorem d_C_part_33 : decode c_C_part 33 = .ok (.aload 4, 2) := by decide +kernel
theorem d_C_part_35 : decode c_C_part 35 = .ok (.getfield 39, 3) := by decide +kernel
theorem d_C_part_38 : decode c_C_part 38 = .ok (.ifCond .ne 6, 3) := by decide +kernel
theorem d_C_part_41 : decode c_C_part 41 = .ok (.bipush (-3), 2) := by decide +kernel
theorem d_C_part_43 : decode c_C_part 43 = .ok (.ireturn, 1) := by decide +kernel
theorem d_C_part_44 : decode c_C_part 44 = .ok (.aload_n 3, 1) := by decide +kernel
theorem d_C_part_45 : decode c_C_part 45 = .ok (.iload_n 1, 1) := by decide +kernel
theorem d_C_part_46 : decode c_C_part 46 = .ok (.iload_n 2, 1) := by decide +kernel
theorem d_C_part_47 : decode c_C_part 47 = .ok (.invokevirtual 147, 3) := by decide +kernel
theorem d_C_part_50 : decode c_C_part 50 = .ok (.ifCond .eq 13, 3) := by decide +kernel
theorem d_C_part_53 : decode c_C_part 53 = .ok (.aload 4, 2) := by decide +kernel
theorem d_C_part_55 : decode c_C_part 55 = .ok (.iload_n 1, 1) := by decide +kernel
theorem d_C_part_56 : decode c_C_part 56 = .ok (.iload_n 2, 1) := by decide +kernel
theorem d_C_part_57 : decode c_C_part 57 = .ok (.invokevirtual 147, 3) := by decide +kernel
theorem d_C_part_60 : decode c_C_part 60 = .ok (.ifCond .ne 6, 3) := by decide +kernel
theorem d_C_part_63 : decode c_C_part 63 = .ok (.bipush (-5), 2) := by decide +kernel
theorem d_C_part_65 : decode c_C_part 65 = .ok (.ireturn, 1) := by decide +kernel
theorem d_C_part_66 : decode c_C_part 66 = .ok (.aload_n 0, 1) := by decide +kernel
theorem d_C_part_67 : decode c_C_part 67 = .ok (.aload_n 3, 1) := by decide +kernel
theorem d_C_part_68 : decode c_C_part 68 = .ok (.aload 4, 2) := by decide +kernel
theorem d_C_part_70 : decode c_C_part 70 = .ok (.iload_n 1, 1) := by decide +kernel
theorem d_C_part_71 : decode c_C_part 71 = .ok (.iload_n 2, 1) := by decide +kernel
theorem d_C_part_72 : decode c_C_part 72 = .ok (.invokevirtual 139, 3) := by decide +kernel
theorem d_C_part_75 : decode c_C_part 75 = .ok (.ireturn, 1) := by decide +kernel
theorem d_C_next_0 : decode c_C_next 0 = .ok (.aload_n 0, 1) := by decide +kernel
theorem d_C_next_1 : decode c_C_next 1 = .ok (.iload_n 1, 1) := by decide +kernel
theorem d_C_next_2 : decode c_C_next 2 = .ok (.invokevirtual 27, 3) := by decide +kernel
theorem d_C_next_5 : decode c_C_next 5 = .ok (.astore_n 3, 1) := by decide +kernel
theorem d_C_next_6 : decode c_C_next 6 = .ok (.aload_n 3, 1) := by decide +kernel
theorem d_C_next_7 : decode c_C_next 7 = .ok (.ifnull 10, 3) := by decide +kernel
theorem d_C_next_10 : decode c_C_next 10 = .ok (.iload_n 2, 1) := by decide +kernel
theorem d_C_next_11 : decode c_C_next 11 = .ok (.invokestatic 121, 3) := by decide +kernel
theorem d_C_next_14 : decode c_C_next 14 = .ok (.ifCond .ne 6, 3) := by decide +kernel
theorem d_C_next_17 : decode c_C_next 17 = .ok (.bipush (-2), 2) := by decide +kernel
theorem d_C_next_19 : decode c_C_next 19 = .ok (.ireturn, 1) := by decide +kernel
theorem d_C_next_20 : decode c_C_next 20 = .ok (.aload_n 3, 1) := by decide +kernel
theorem d_C_next_21 : decode c_C_next 21 = .ok (.getfield 39, 3) := by decide +kernel
theorem d_C_next_24 : decode c_C_next 24 = .ok (.ifCond .ne 6, 3) := by decide +kernel
theorem d_C_next_27 : decode c_C_next 27 = .ok (.bipush (-3), 2) := by decide +kernel
theorem d_C_next_29 : decode c_C_next 29 = .ok (.ireturn, 1) := by decide +kernel
theorem d_C_next_30 : decode c_C_next 30 = .ok (.aload_n 3, 1) := by decide +kernel
theorem d_C_next_31 : decode c_C_next 31 = .ok (.iload_n 2, 1) := by decide +kernel
theorem d_C_next_32 : decode c_C_next 32 = .ok (.invokevirtual 150, 3) := by decide +kernel
theorem d_C_next_35 : decode c_C_next 35 = .ok (.ireturn, 1) := by decide +kernel
theorem d_C_refine_0 : decode c_C_refine 0 = .ok (.aload_n 0, 1) := by decide +kernel
theorem d_C_refine_1 : decode c_C_refine 1 = .ok (.iload_n 1, 1) := by decide +kernel
theorem d_C_refine_2 : decode c_C_refine 2 = .ok (.invokevirtual 27, 3) := by decide +kernel
theorem d_C_refine_5 : decode c_C_refine 5 = .ok (.astore 4, 2) := by decide +kernel
theorem d_C_refine_7 : decode c_C_refine 7 = .ok (.aload 4, 2) := by decide +kernel
theorem d_C_refine_9 : decode c_C_refine 9 = .ok (.ifnull 20, 3) := by decide +kernel
theorem d_C_refine_12 : decode c_C_refine 12 = .ok (.iload_n 2, 1) := by decide +kernel
theorem d_C_refine_13 : decode c_C_refine 13 = .ok (.invokestatic 121, 3) := by decide +kernel
theorem d_C_refine_16 : decode c_C_refine 16 = .ok (.ifCond .eq 13, 3) := by decide +kernel
theorem d_C_refine_19 : decode c_C_refine 19 = .ok (.iload_n 3, 1) := by decide +kernel
theorem d_C_refine_20 : decode c_C_refine 20 = .ok (.ifCond .lt 9, 3) := by decide +kernel
theorem d_C_refine_23 : decode c_C_refine 23 = .ok (.iload_n 3, 1) := by decide +kernel
theorem d_C_refine_24 : decode c_C_refine 24 = .ok (.ldc 153, 2) := by decide +kernel
theorem d_C_refine_26 : decode c_C_refine 26 = .ok (.if_icmp .le 6, 3) := by decide +kernel
theorem d_C_refine_29 : decode c_C_refine 29 = .ok (.bipush (-2), 2) := by decide +kernel
theorem d_C_refine_31 : decode c_C_refine 31 = .ok (.ireturn, 1) := by decide +kernel
theorem d_C_refine_32 : decode c_C_refine 32 = .ok (.aload 4, 2) := by decide +kernel
theorem d_C_refine_34 : decode c_C_refine 34 = .ok (.getfield 39, 3) := by decide +kernel
theorem d_C_refine_37 : decode c_C_refine 37 = .ok (.ifCond .ne 6, 3) := by decide +kernel
theorem d_C_refine_40 : decode c_C_refine 40 = .ok (.bipush (-3), 2) := by decide +kernel
theorem d_C_refine_42 : decode c_C_refine 42 = .ok (.ireturn, 1) := by decide +kernel
theorem d_C_refine_43 : decode c_C_refine 43 = .ok (.iconst 0, 1) := by decide +kernel
theorem d_C_refine_44 : decode c_C_refine 44 = .ok (.istore 5, 2) := by decide +kernel
theorem d_C_refine_46 : decode c_C_refine 46 = .ok (.iload 5, 2) := by decide +kernel
theorem d_C_refine_48 : decode c_C_refine 48 = .ok (.bipush 8, 2) := by decide +kernel
theorem d_C_refine_50 : decode c_C_refine 50 = .ok (.if_icmp .ge 49, 3) := by decide +kernel
theorem d_C_refine_53 : decode c_C_refine 53 = .ok (.aload 4, 2) := by decide +kernel
theorem d_C_refine_55 : decode c_C_refine 55 = .ok (.iload_n 2, 1) := by decide +kernel
theorem d_C_refine_56 : decode c_C_refine 56 = .ok (.invokevirtual 154, 3) := by decide +kernel
theorem d_C_refine_59 : decode c_C_refine 59 = .ok (.iload_n 3, 1) := by decide +kernel
theorem d_C_refine_60 : decode c_C_refine 60 = .ok (.i2l, 1) := by decide +kernel
theorem d_C_refine_61 : decode c_C_refine 61 = .ok (.lcmp, 1) := by decide +kernel
theorem d_C_refine_62 : decode c_C_refine 62 = .ok (.ifCond .le 37, 3) := by decide +kernel
theorem d_C_refine_65 : decode c_C_refine 65 = .ok (.aload 4, 2) := by decide +kernel
theorem d_C_refine_67 : decode c_C_refine 67 = .ok (.aload 4, 2) := by decide +kernel
theorem d_C_refine_69 : decode c_C_refine 69 = .ok (.iload_n 2, 1) := by decide +kernel
theorem d_C_refine_70 : decode c_C_refine 70 = .ok (.invokevirtual 150, 3) := by decide +kernel
theorem d_C_refine_73 : decode c_C_refine 73 = .ok (.invokestatic 31, 3) := by decide +kernel
theorem d_C_refine_76 : decode c_C_refine 76 = .ok (.astore 6, 2) := by decide +kernel
theorem d_C_refine_78 : decode c_C_refine 78 = .ok (.aload 6, 2) := by decide +kernel
theorem d_C_refine_80 : decode c_C_refine 80 = .ok (.ifnonnull 6, 3) := by decide +kernel
theorem d_C_refine_83 : decode c_C_refine 83 = .ok (.goto 16, 3) := by decide +kernel
theorem d_C_refine_86 : decode c_C_refine 86 = .ok (.aload_n 0, 1) := by decide +kernel
theorem d_C_refine_87 : decode c_C_refine 87 = .ok (.aload 6, 2) := by decide +kernel
theorem d_C_refine_89 : decode c_C_refine 89 = .ok (.invokevirtual 90, 3) := by decide +kernel
theorem d_C_refine_92 : decode c_C_refine 92 = .ok (.pop, 1) := by decide +kernel
theorem d_C_refine_93 : decode c_C_refine 93 = .ok (.iinc 5 1, 3) := by decide +kernel
theorem d_C_refine_96 : decode c_C_refine 96 = .ok (.goto (-50), 3) := by decide +kernel
theorem d_C_refine_99 : decode c_C_refine 99 = .ok (.iload 5, 2) := by decide +kernel
theorem d_C_refine_101 : decode c_C_refine 101 = .ok (.ireturn, 1) := by decide +kernel
theorem d_C_sheet_0 : decode c_C_sheet 0 = .ok (.aload_n 0, 1) := by decide +kernel
theorem d_C_sheet_1 : decode c_C_sheet 1 = .ok (.iload_n 1, 1) := by decide +kernel
theorem d_C_sheet_2 : decode c_C_sheet 2 = .ok (.invokevirtual 53, 3) := by decide +kernel
theorem d_C_sheet_5 : decode c_C_sheet 5 = .ok (.astore 4, 2) := by decide +kernel
theorem d_C_sheet_7 : decode c_C_sheet 7 = .ok (.aload 4, 2) := by decide +kernel
theorem d_C_sheet_9 : decode c_C_sheet 9 = .ok (.ifnull 16, 3) := by decide +kernel
theorem d_C_sheet_12 : decode c_C_sheet 12 = .ok (.iload_n 2, 1) := by decide +kernel
theorem d_C_sheet_13 : decode c_C_sheet 13 = .ok (.invokestatic 158, 3) := by decide +kernel
theorem d_C_sheet_16 : decode c_C_sheet 16 = .ok (.ifCond .eq 9, 3) := by decide +kernel
theorem d_C_sheet_19 : decode c_C_sheet 19 = .ok (.iload_n 3, 1) := by decide +kernel
theorem d_C_sheet_20 : decode c_C_sheet 20 = .ok (.bipush 40, 2) := by decide +kernel
theorem d_C_sheet_22 : decode c_C_sheet 22 = .ok (.if_icmp .le 6, 3) := by decide +kernel
theorem d_C_sheet_25 : decode c_C_sheet 25 = .ok (.bipush (-2), 2) := by decide +kernel
theorem d_C_sheet_27 : decode c_C_sheet 27 = .ok (.ireturn, 1) := by decide +kernel
theorem d_C_sheet_28 : decode c_C_sheet 28 = .ok (.iload_n 3, 1) := by decide +kernel
theorem d_C_sheet_29 : decode c_C_sheet 29 = .ok (.ifCond .ge 9, 3) := by decide +kernel
theorem d_C_sheet_32 : decode c_C_sheet 32 = .ok (.aload_n 0, 1) := by decide +kernel
theorem d_C_sheet_33 : decode c_C_sheet 33 = .ok (.iconst 5, 1) := by decide +kernel
theorem d_C_sheet_34 : decode c_C_sheet 34 = .ok (.invokevirtual 60, 3) := by decide +kernel
theorem d_C_sheet_37 : decode c_C_sheet 37 = .ok (.ireturn, 1) := by decide +kernel
theorem d_C_sheet_38 : decode c_C_sheet 38 = .ok (.aload 4, 2) := by decide +kernel
theorem d_C_sheet_40 : decode c_C_sheet 40 = .ok (.iload_n 2, 1) := by decide +kernel
theorem d_C_sheet_41 : decode c_C_sheet 41 = .ok (.iload_n 3, 1) := by decide +kernel
theorem d_C_sheet_42 : decode c_C_sheet 42 = .ok (.invokevirtual 161, 3) := by decide +kernel
theorem d_C_sheet_45 : decode c_C_sheet 45 = .ok (.iload_n 3, 1) := by decide +kernel
theorem d_C_sheet_46 : decode c_C_sheet 46 = .ok (.ireturn, 1) := by decide +kernel
theorem d_C_lose_0 : decode c_C_lose 0 = .ok (.aload_n 0, 1) := by decide +kernel
theorem d_C_lose_1 : decode c_C_lose 1 = .ok (.iload_n 1, 1) := by decide +kernel
theorem d_C_lose_2 : decode c_C_lose 2 = .ok (.invokevirtual 53, 3) := by decide +kernel
theorem d_C_lose_5 : decode c_C_lose 5 = .ok (.astore_n 2, 1) := by decide +kernel
theorem d_C_lose_6 : decode c_C_lose 6 = .ok (.aload_n 2, 1) := by decide +kernel
theorem d_C_lose_7 : decode c_C_lose 7 = .ok (.ifnonnull 6, 3) := by decide +kernel
theorem d_C_lose_10 : decode c_C_lose 10 = .ok (.bipush (-2), 2) := by decide +kernel
theorem d_C_lose_12 : decode c_C_lose 12 = .ok (.ireturn, 1) := by decide +kernel
theorem d_C_lose_13 : decode c_C_lose 13 = .ok (.aload_n 2, 1) := by decide +kernel
theorem d_C_lose_14 : decode c_C_lose 14 = .ok (.getfield 57, 3) := by decide +kernel
theorem d_C_lose_17 : decode c_C_lose 17 = .ok (.ifCond .eq 9, 3) := by decide +kernel
theorem d_C_lose_20 : decode c_C_lose 20 = .ok (.aload_n 0, 1) := by decide +kernel
theorem d_C_lose_21 : decode c_C_lose 21 = .ok (.iconst 1, 1) := by decide +kernel
theorem d_C_lose_22 : decode c_C_lose 22 = .ok (.invokevirtual 60, 3) := by decide +kernel
theorem d_C_lose_25 : decode c_C_lose 25 = .ok (.ireturn, 1) := by decide +kernel
theorem d_C_lose_26 : decode c_C_lose 26 = .ok (.aload_n 2, 1) := by decide +kernel
theorem d_C_lose_27 : decode c_C_lose 27 = .ok (.iconst 1, 1) := by decide +kernel
theorem d_C_lose_28 : decode c_C_lose 28 = .ok (.putfield 57, 3) := by decide +kernel
theorem d_C_lose_31 : decode c_C_lose 31 = .ok (.aload_n 2, 1) := by decide +kernel
theorem d_C_lose_32 : decode c_C_lose 32 = .ok (.getfield 64, 3) := by decide +kernel
theorem d_C_lose_35 : decode c_C_lose 35 = .ok (.ireturn, 1) := by decide +kernel
theorem d_C_put_0 : decode c_C_put 0 = .ok (.aload_n 0, 1) := by decide +kernel
theorem d_C_put_1 : decode c_C_put 1 = .ok (.iload_n 1, 1) := by decide +kernel
theorem d_C_put_2 : decode c_C_put 2 = .ok (.invokevirtual 53, 3) := by decide +kernel
theorem d_C_put_5 : decode c_C_put 5 = .ok (.astore 5, 2) := by decide +kernel
theorem d_C_put_7 : decode c_C_put 7 = .ok (.aload 5, 2) := by decide +kernel
theorem d_C_put_9 : decode c_C_put 9 = .ok (.ifnull 10, 3) := by decide +kernel
theorem d_C_put_12 : decode c_C_put 12 = .ok (.iload_n 2, 1) := by decide +kernel
theorem d_C_put_13 : decode c_C_put 13 = .ok (.invokestatic 158, 3) := by decide +kernel
theorem d_C_put_16 : decode c_C_put 16 = .ok (.ifCond .ne 6, 3) := by decide +kernel
theorem d_C_put_19 : decode c_C_put 19 = .ok (.bipush (-2), 2) := by decide +kernel
theorem d_C_put_21 : decode c_C_put 21 = .ok (.ireturn, 1) := by decide +kernel
theorem d_C_put_22 : decode c_C_put 22 = .ok (.aload 5, 2) := by decide +kernel
theorem d_C_put_24 : decode c_C_put 24 = .ok (.iload_n 2, 1) := by decide +kernel
theorem d_C_put_25 : decode c_C_put 25 = .ok (.iload_n 3, 1) := by decide +kernel
theorem d_C_put_26 : decode c_C_put 26 = .ok (.invokevirtual 164, 3) := by decide +kernel
theorem d_C_put_29 : decode c_C_put 29 = .ok (.istore 6, 2) := by decide +kernel
theorem d_C_put_31 : decode c_C_put 31 = .ok (.iload 6, 2) := by decide +kernel
theorem d_C_put_33 : decode c_C_put 33 = .ok (.ifCond .eq 10, 3) := by decide +kernel
theorem d_C_put_36 : decode c_C_put 36 = .ok (.aload_n 0, 1) := by decide +kernel
theorem d_C_put_37 : decode c_C_put 37 = .ok (.iload 6, 2) := by decide +kernel
theorem d_C_put_39 : decode c_C_put 39 = .ok (.invokevirtual 60, 3) := by decide +kernel
theorem d_C_put_42 : decode c_C_put 42 = .ok (.ireturn, 1) := by decide +kernel
theorem d_C_put_43 : decode c_C_put 43 = .ok (.aload 5, 2) := by decide +kernel
theorem d_C_put_45 : decode c_C_put 45 = .ok (.iload_n 3, 1) := by decide +kernel
theorem d_C_put_46 : decode c_C_put 46 = .ok (.iload 4, 2) := by decide +kernel
theorem d_C_put_48 : decode c_C_put 48 = .ok (.invokevirtual 167, 3) := by decide +kernel
theorem d_C_put_51 : decode c_C_put 51 = .ok (.iconst 1, 1) := by decide +kernel
theorem d_C_put_52 : decode c_C_put 52 = .ok (.ireturn, 1) := by decide +kernel
theorem d_C_get_0 : decode c_C_get 0 = .ok (.aload_n 0, 1) := by decide +kernel
theorem d_C_get_1 : decode c_C_get 1 = .ok (.iload_n 1, 1) := by decide +kernel
theorem d_C_get_2 : decode c_C_get 2 = .ok (.invokevirtual 53, 3) := by decide +kernel
theorem d_C_get_5 : decode c_C_get 5 = .ok (.astore 4, 2) := by decide +kernel
theorem d_C_get_7 : decode c_C_get 7 = .ok (.aload 4, 2) := by decide +kernel
theorem d_C_get_9 : decode c_C_get 9 = .ok (.ifnull 10, 3) := by decide +kernel
theorem d_C_get_12 : decode c_C_get 12 = .ok (.iload_n 2, 1) := by decide +kernel
theorem d_C_get_13 : decode c_C_get 13 = .ok (.invokestatic 158, 3) := by decide +kernel
theorem d_C_get_16 : decode c_C_get 16 = .ok (.ifCond .ne 6, 3) := by decide +kernel
theorem d_C_get_19 : decode c_C_get 19 = .ok (.ldc 111, 2) := by decide +kernel
theorem d_C_get_21 : decode c_C_get 21 = .ok (.ireturn, 1) := by decide +kernel
theorem d_C_get_22 : decode c_C_get 22 = .ok (.aload 4, 2) := by decide +kernel
theorem d_C_get_24 : decode c_C_get 24 = .ok (.iload_n 2, 1) := by decide +kernel
theorem d_C_get_25 : decode c_C_get 25 = .ok (.iload_n 3, 1) := by decide +kernel
theorem d_C_get_26 : decode c_C_get 26 = .ok (.invokevirtual 164, 3) := by decide +kernel
theorem d_C_get_29 : decode c_C_get 29 = .ok (.istore 5, 2) := by decide +kernel
theorem d_C_get_31 : decode c_C_get 31 = .ok (.iload 5, 2) := by decide +kernel
theorem d_C_get_33 : decode c_C_get 33 = .ok (.ifCond .eq 13, 3) := by decide +kernel
theorem d_C_get_36 : decode c_C_get 36 = .ok (.aload_n 0, 1) := by decide +kernel
theorem d_C_get_37 : decode c_C_get 37 = .ok (.iload 5, 2) := by decide +kernel
theorem d_C_get_39 : decode c_C_get 39 = .ok (.invokevirtual 60, 3) := by decide +kernel
theorem d_C_get_42 : decode c_C_get 42 = .ok (.pop, 1) := by decide +kernel
theorem d_C_get_43 : decode c_C_get 43 = .ok (.ldc 111, 2) := by decide +kernel
theorem d_C_get_45 : decode c_C_get 45 = .ok (.ireturn, 1) := by decide +kernel
theorem d_C_get_46 : decode c_C_get 46 = .ok (.aload 4, 2) := by decide +kernel
theorem d_C_get_48 : decode c_C_get 48 = .ok (.getfield 65, 3) := by decide +kernel
theorem d_C_get_51 : decode c_C_get 51 = .ok (.iload_n 3, 1) := by decide +kernel
theorem d_C_get_52 : decode c_C_get 52 = .ok (.iaload, 1) := by decide +kernel
theorem d_C_get_53 : decode c_C_get 53 = .ok (.ireturn, 1) := by decide +kernel
theorem d_C_copy_0 : decode c_C_copy 0 = .ok (.aload_n 0, 1) := by decide +kernel
theorem d_C_copy_1 : decode c_C_copy 1 = .ok (.iload_n 1, 1) := by decide +kernel
theorem d_C_copy_2 : decode c_C_copy 2 = .ok (.invokevirtual 53, 3) := by decide +kernel
theorem d_C_copy_5 : decode c_C_copy 5 = .ok (.astore 6, 2) := by decide +kernel
theorem d_C_copy_7 : decode c_C_copy 7 = .ok (.aload_n 0, 1) := by decide +kernel
theorem d_C_copy_8 : decode c_C_copy 8 = .ok (.iload_n 3, 1) := by decide +kernel
theorem d_C_copy_9 : decode c_C_copy 9 = .ok (.invokevirtual 53, 3) := by decide +kernel
theorem d_C_copy_12 : decode c_C_copy 12 = .ok (.astore 7, 2) := by decide +kernel
theorem d_C_copy_14 : decode c_C_copy 14 = .ok (.aload 6, 2) := by decide +kernel
theorem d_C_copy_16 : decode c_C_copy 16 = .ok (.ifnull 8, 3) := by decide +kernel
theorem d_C_copy_19 : decode c_C_copy 19 = .ok (.aload 7, 2) := by decide +kernel
theorem d_C_copy_21 : decode c_C_copy 21 = .ok (.ifnonnull 6, 3) := by decide +kernel
theorem d_C_copy_24 : decode c_C_copy 24 = .ok (.bipush (-2), 2) := by decide +kernel
theorem d_C_copy_26 : decode c_C_copy 26 = .ok (.ireturn, 1) := by decide +kernel
theorem d_C_copy_27 : decode c_C_copy 27 = .ok (.aload 6, 2) := by decide +kernel
theorem d_C_copy_29 : decode c_C_copy 29 = .ok (.getfield 57, 3) := by decide +kernel
theorem d_C_copy_32 : decode c_C_copy 32 = .ok (.ifCond .ne 11, 3) := by decide +kernel
theorem d_C_copy_35 : decode c_C_copy 35 = .ok (.aload 7, 2) := by decide +kernel
theorem d_C_copy_37 : decode c_C_copy 37 = .ok (.getfield 57, 3) := by decide +kernel
theorem d_C_copy_40 : decode c_C_copy 40 = .ok (.ifCond .eq 9, 3) := by decide +kernel
theorem d_C_copy_43 : decode c_C_copy 43 = .ok (.aload_n 0, 1) := by decide +kernel
theorem d_C_copy_44 : decode c_C_copy 44 = .ok (.iconst 1, 1) := by decide +kernel
theorem d_C_copy_45 : decode c_C_copy 45 = .ok (.invokevirtual 60, 3) := by decide +kernel
theorem d_C_copy_48 : decode c_C_copy 48 = .ok (.ireturn, 1) := by decide +kernel
theorem d_C_copy_49 : decode c_C_copy 49 = .ok (.aload 6, 2) := by decide +kernel
theorem d_C_copy_51 : decode c_C_copy 51 = .ok (.getfield 170, 3) := by decide +kernel
theorem d_C_copy_54 : decode c_C_copy 54 = .ok (.aload 7, 2) := by decide +kernel
theorem d_C_copy_56 : decode c_C_copy 56 = .ok (.getfield 170, 3) := by decide +kernel
theorem d_C_copy_59 : decode c_C_copy 59 = .ok (.if_icmp .eq 9, 3) := by decide +kernel
theorem d_C_copy_62 : decode c_C_copy 62 = .ok (.aload_n 0, 1) := by decide +kernel
theorem d_C_copy_63 : decode c_C_copy 63 = .ok (.iconst 4, 1) := by decide +kernel
theorem d_C_copy_64 : decode c_C_copy 64 = .ok (.invokevirtual 60, 3) := by decide +kernel
theorem d_C_copy_67 : decode c_C_copy 67 = .ok (.ireturn, 1) := by decide +kernel
theorem d_C_copy_68 : decode c_C_copy 68 = .ok (.aload 6, 2) := by decide +kernel
theorem d_C_copy_70 : decode c_C_copy 70 = .ok (.iload_n 2, 1) := by decide +kernel
theorem d_C_copy_71 : decode c_C_copy 71 = .ok (.iload 5, 2) := by decide +kernel
theorem d_C_copy_73 : decode c_C_copy 73 = .ok (.invokevirtual 173, 3) := by decide +kernel
theorem d_C_copy_76 : decode c_C_copy 76 = .ok (.ifCond .eq 15, 3) := by decide +kernel
theorem d_C_copy_79 : decode c_C_copy 79 = .ok (.aload 7, 2) := by decide +kernel
theorem d_C_copy_81 : decode c_C_copy 81 = .ok (.iload 4, 2) := by decide +kernel
theorem d_C_copy_83 : decode c_C_copy 83 = .ok (.iload 5, 2) := by decide +kernel
theorem d_C_copy_85 : decode c_C_copy 85 = .ok (.invokevirtual 173, 3) := by decide +kernel
theorem d_C_copy_88 : decode c_C_copy 88 = .ok (.ifCond .ne 9, 3) := by decide +kernel
theorem d_C_copy_91 : decode c_C_copy 91 = .ok (.aload_n 0, 1) := by decide +kernel
theorem d_C_copy_92 : decode c_C_copy 92 = .ok (.iconst 2, 1) := by decide +kernel
theorem d_C_copy_93 : decode c_C_copy 93 = .ok (.invokevirtual 60, 3) := by decide +kernel
theorem d_C_copy_96 : decode c_C_copy 96 = .ok (.ireturn, 1) := by decide +kernel
theorem d_C_copy_97 : decode c_C_copy 97 = .ok (.aload 6, 2) := by decide +kernel
theorem d_C_copy_99 : decode c_C_copy 99 = .ok (.getfield 65, 3) := by decide +kernel
theorem d_C_copy_102 : decode c_C_copy 102 = .ok (.iload_n 2, 1) := by decide +kernel
theorem d_C_copy_103 : decode c_C_copy 103 = .ok (.aload 7, 2) := by decide +kernel
theorem d_C_copy_105 : decode c_C_copy 105 = .ok (.getfield 65, 3) := by decide +kernel
theorem d_C_copy_108 : decode c_C_copy 108 = .ok (.iload 4, 2) := by decide +kernel
theorem d_C_copy_110 : decode c_C_copy 110 = .ok (.iload 5, 2) := by decide +kernel
theorem d_C_copy_112 : decode c_C_copy 112 = .ok (.invokestatic 176, 3) := by decide +kernel
theorem d_C_copy_115 : decode c_C_copy 115 = .ok (.iconst 1, 1) := by decide +kernel
theorem d_C_copy_116 : decode c_C_copy 116 = .ok (.ireturn, 1) := by decide +kernel
theorem d_C_write_0 : decode c_C_write 0 = .ok (.aload_n 0, 1) := by decide +kernel
theorem d_C_write_1 : decode c_C_write 1 = .ok (.iload_n 1, 1) := by decide +kernel
theorem d_C_write_2 : decode c_C_write 2 = .ok (.invokevirtual 27, 3) := by decide +kernel
theorem d_C_write_5 : decode c_C_write 5 = .ok (.astore 5, 2) := by decide +kernel
theorem d_C_write_7 : decode c_C_write 7 = .ok (.aload_n 0, 1) := by decide +kernel
theorem d_C_write_8 : decode c_C_write 8 = .ok (.iload_n 2, 1) := by decide +kernel
theorem d_C_write_9 : decode c_C_write 9 = .ok (.invokevirtual 53, 3) := by decide +kernel
theorem d_C_write_12 : decode c_C_write 12 = .ok (.astore 6, 2) := by decide +kernel
theorem d_C_write_14 : decode c_C_write 14 = .ok (.aload_n 0, 1) := by decide +kernel
theorem d_C_write_15 : decode c_C_write 15 = .ok (.iload_n 3, 1) := by decide +kernel
theorem d_C_write_16 : decode c_C_write 16 = .ok (.invokevirtual 53, 3) := by decide +kernel
theorem d_C_write_19 : decode c_C_write 19 = .ok (.astore 7, 2) := by decide +kernel
theorem d_C_write_21 : decode c_C_write 21 = .ok (.aload_n 0, 1) := by decide +kernel
theorem d_C_write_22 : decode c_C_write 22 = .ok (.iload 4, 2) := by decide +kernel
theorem d_C_write_24 : decode c_C_write 24 = .ok (.invokevirtual 53, 3) := by decide +kernel
theorem d_C_write_27 : decode c_C_write 27 = .ok (.astore 8, 2) := by decide +kernel
theorem d_C_write_29 : decode c_C_write 29 = .ok (.aload 5, 2) := by decide +kernel
theorem d_C_write_31 : decode c_C_write 31 = .ok (.ifnull 18, 3) := by decide +kernel
theorem d_C_write_34 : decode c_C_write 34 = .ok (.aload 6, 2) := by decide +kernel
theorem d_C_write_36 : decode c_C_write 36 = .ok (.ifnull 13, 3) := by decide +kernel
theorem d_C_write_39 : decode c_C_write 39 = .ok (.aload 7, 2) := by decide +kernel
theorem d_C_write_41 : decode c_C_write 41 = .ok (.ifnull 8, 3) := by decide +kernel
theorem d_C_write_44 : decode c_C_write 44 = .ok (.aload 8, 2) := by decide +kernel
theorem d_C_write_46 : decode c_C_write 46 = .ok (.ifnonnull 6, 3) := by decide +kernel
theorem d_C_write_49 : decode c_C_write 49 = .ok (.bipush (-2), 2) := by decide +kernel
theorem d_C_write_51 : decode c_C_write 51 = .ok (.ireturn, 1) := by decide +kernel
theorem d_C_write_52 : decode c_C_write 52 = .ok (.aload 5, 2) := by decide +kernel
theorem d_C_write_54 : decode c_C_write 54 = .ok (.getfield 39, 3) := by decide +kernel
theorem d_C_write_57 : decode c_C_write 57 = .ok (.ifCond .ne 6, 3) := by decide +kernel
theorem d_C_write_60 : decode c_C_write 60 = .ok (.bipush (-3), 2) := by decide +kernel
theorem d_C_write_62 : decode c_C_write 62 = .ok (.ireturn, 1) := by decide +kernel
theorem d_C_write_63 : decode c_C_write 63 = .ok (.aload 6, 2) := by decide +kernel
theorem d_C_write_65 : decode c_C_write 65 = .ok (.getfield 57, 3) := by decide +kernel
theorem d_C_write_68 : decode c_C_write 68 = .ok (.ifCond .ne 19, 3) := by decide +kernel
theorem d_C_write_71 : decode c_C_write 71 = .ok (.aload 7, 2) := by decide +kernel
theorem d_C_write_73 : decode c_C_write 73 = .ok (.getfield 57, 3) := by decide +kernel
theorem d_C_write_76 : decode c_C_write 76 = .ok (.ifCond .ne 11, 3) := by decide +kernel
theorem d_C_write_79 : decode c_C_write 79 = .ok (.aload 8, 2) := by decide +kernel
theorem d_C_write_81 : decode c_C_write 81 = .ok (.getfield 57, 3) := by decide +kernel
theorem d_C_write_84 : decode c_C_write 84 = .ok (.ifCond .eq 9, 3) := by decide +kernel
theorem d_C_write_87 : decode c_C_write 87 = .ok (.aload_n 0, 1) := by decide +kernel
theorem d_C_write_88 : decode c_C_write 88 = .ok (.iconst 1, 1) := by decide +kernel
theorem d_C_write_89 : decode c_C_write 89 = .ok (.invokevirtual 60, 3) := by decide +kernel
theorem d_C_write_92 : decode c_C_write 92 = .ok (.ireturn, 1) := by decide +kernel
theorem d_C_write_93 : decode c_C_write 93 = .ok (.iconst 0, 1) := by decide +kernel
theorem d_C_write_94 : decode c_C_write 94 = .ok (.istore 9, 2) := by decide +kernel
theorem d_C_write_96 : decode c_C_write 96 = .ok (.iconst 0, 1) := by decide +kernel
theorem d_C_write_97 : decode c_C_write 97 = .ok (.istore 10, 2) := by decide +kernel
theorem d_C_write_99 : decode c_C_write 99 = .ok (.iload 10, 2) := by decide +kernel
theorem d_C_write_101 : decode c_C_write 101 = .ok (.bipush 8, 2) := by decide +kernel
theorem d_C_write_103 : decode c_C_write 103 = .ok (.if_icmp .ge 30, 3) := by decide +kernel
theorem d_C_write_106 : decode c_C_write 106 = .ok (.aload 5, 2) := by decide +kernel
theorem d_C_write_108 : decode c_C_write 108 = .ok (.getfield 182, 3) := by decide +kernel
theorem d_C_write_111 : decode c_C_write 111 = .ok (.iload 10, 2) := by decide +kernel
theorem d_C_write_113 : decode c_C_write 113 = .ok (.aaload, 1) := by decide +kernel
theorem d_C_write_114 : decode c_C_write 114 = .ok (.aload 6, 2) := by decide +kernel
theorem d_C_write_116 : decode c_C_write 116 = .ok (.aload 7, 2) := by decide +kernel
theorem d_C_write_118 : decode c_C_write 118 = .ok (.aload 8, 2) := by decide +kernel
theorem d_C_write_120 : decode c_C_write 120 = .ok (.iload 9, 2) := by decide +kernel
theorem d_C_write_122 : decode c_C_write 122 = .ok (.invokevirtual 186, 3) := by decide +kernel
theorem d_C_write_125 : decode c_C_write 125 = .ok (.istore 9, 2) := by decide +kernel
theorem d_C_write_127 : decode c_C_write 127 = .ok (.iinc 10 1, 3) := by decide +kernel
theorem d_C_write_130 : decode c_C_write 130 = .ok (.goto (-31), 3) := by decide +kernel
theorem d_C_write_133 : decode c_C_write 133 = .ok (.iload 9, 2) := by decide +kernel
theorem d_C_write_135 : decode c_C_write 135 = .ok (.ireturn, 1) := by decide +kernel
theorem d_C_told_0 : decode c_C_told 0 = .ok (.iload_n 1, 1) := by decide +kernel
theorem d_C_told_1 : decode c_C_told 1 = .ok (.tableswitch 121 0 9 #[55, 55, 65, 70, 75, 75, 95, 95, 108, 108], 55) := by decide +kernel
theorem d_C_told_56 : decode c_C_told 56 = .ok (.aload_n 0, 1) := by decide +kernel
theorem d_C_told_57 : decode c_C_told 57 = .ok (.getfield 11, 3) := by decide +kernel
theorem d_C_told_60 : decode c_C_told 60 = .ok (.iload_n 1, 1) := by decide +kernel
theorem d_C_told_61 : decode c_C_told 61 = .ok (.aaload, 1) := by decide +kernel
theorem d_C_told_62 : decode c_C_told 62 = .ok (.invokevirtual 84, 3) := by decide +kernel
theorem d_C_told_65 : decode c_C_told 65 = .ok (.ireturn, 1) := by decide +kernel
theorem d_C_told_66 : decode c_C_told 66 = .ok (.aload_n 0, 1) := by decide +kernel
theorem d_C_told_67 : decode c_C_told 67 = .ok (.getfield 190, 3) := by decide +kernel
theorem d_C_told_70 : decode c_C_told 70 = .ok (.ireturn, 1) := by decide +kernel
theorem d_C_told_71 : decode c_C_told 71 = .ok (.aload_n 0, 1) := by decide +kernel
theorem d_C_told_72 : decode c_C_told 72 = .ok (.getfield 193, 3) := by decide +kernel
theorem d_C_told_75 : decode c_C_told 75 = .ok (.ireturn, 1) := by decide +kernel
theorem d_C_told_76 : decode c_C_told 76 = .ok (.aload_n 0, 1) := by decide +kernel
theorem d_C_told_77 : decode c_C_told 77 = .ok (.getfield 11, 3) := by decide +kernel
theorem d_C_told_80 : decode c_C_told 80 = .ok (.iload_n 1, 1) := by decide +kernel
theorem d_C_told_81 : decode c_C_told 81 = .ok (.iconst 4, 1) := by decide +kernel
theorem d_C_told_82 : decode c_C_told 82 = .ok (.isub, 1) := by decide +kernel
theorem d_C_told_83 : decode c_C_told 83 = .ok (.aaload, 1) := by decide +kernel
theorem d_C_told_84 : decode c_C_told 84 = .ok (.getfield 39, 3) := by decide +kernel
theorem d_C_told_87 : decode c_C_told 87 = .ok (.ifCond .eq 7, 3) := by decide +kernel
theorem d_C_told_90 : decode c_C_told 90 = .ok (.iconst 1, 1) := by decide +kernel
theorem d_C_told_91 : decode c_C_told 91 = .ok (.goto 4, 3) := by decide +kernel
theorem d_C_told_94 : decode c_C_told 94 = .ok (.iconst 0, 1) := by decide +kernel
theorem d_C_told_95 : decode c_C_told 95 = .ok (.ireturn, 1) := by decide +kernel
theorem d_C_told_96 : decode c_C_told 96 = .ok (.aload_n 0, 1) := by decide +kernel
theorem d_C_told_97 : decode c_C_told 97 = .ok (.getfield 11, 3) := by decide +kernel
theorem d_C_told_100 : decode c_C_told 100 = .ok (.iload_n 1, 1) := by decide +kernel
theorem d_C_told_101 : decode c_C_told 101 = .ok (.bipush 6, 2) := by decide +kernel
theorem d_C_told_103 : decode c_C_told 103 = .ok (.isub, 1) := by decide +kernel
theorem d_C_told_104 : decode c_C_told 104 = .ok (.aaload, 1) := by decide +kernel
theorem d_C_told_105 : decode c_C_told 105 = .ok (.getfield 71, 3) := by decide +kernel
theorem d_C_told_108 : decode c_C_told 108 = .ok (.ireturn, 1) := by decide +kernel
theorem d_C_told_109 : decode c_C_told 109 = .ok (.aload_n 0, 1) := by decide +kernel
theorem d_C_told_110 : decode c_C_told 110 = .ok (.getfield 11, 3) := by decide +kernel
theorem d_C_told_113 : decode c_C_told 113 = .ok (.iload_n 1, 1) := by decide +kernel
theorem d_C_told_114 : decode c_C_told 114 = .ok (.bipush 8, 2) := by decide +kernel
theorem d_C_told_116 : decode c_C_told 116 = .ok (.isub, 1) := by decide +kernel
theorem d_C_told_117 : decode c_C_told 117 = .ok (.aaload, 1) := by decide +kernel
theorem d_C_told_118 : decode c_C_told 118 = .ok (.invokevirtual 80, 3) := by decide +kernel
theorem d_C_told_121 : decode c_C_told 121 = .ok (.ireturn, 1) := by decide +kernel
theorem d_C_told_122 : decode c_C_told 122 = .ok (.bipush (-2), 2) := by decide +kernel
theorem d_C_told_124 : decode c_C_told 124 = .ok (.ireturn, 1) := by decide +kernel
theorem d_C_digest_0 : decode c_C_digest 0 = .ok (.ldc2_w 196, 3) := by decide +kernel
theorem d_C_digest_3 : decode c_C_digest 3 = .ok (.lstore_n 1, 1) := by decide +kernel
theorem d_C_digest_4 : decode c_C_digest 4 = .ok (.iconst 0, 1) := by decide +kernel
theorem d_C_digest_5 : decode c_C_digest 5 = .ok (.istore_n 3, 1) := by decide +kernel
theorem d_C_digest_6 : decode c_C_digest 6 = .ok (.iload_n 3, 1) := by decide +kernel
theorem d_C_digest_7 : decode c_C_digest 7 = .ok (.bipush 9, 2) := by decide +kernel
theorem d_C_digest_9 : decode c_C_digest 9 = .ok (.if_icmp .gt 25, 3) := by decide +kernel
theorem d_C_digest_12 : decode c_C_digest 12 = .ok (.iload_n 3, 1) := by decide +kernel
theorem d_C_digest_13 : decode c_C_digest 13 = .ok (.iconst 3, 1) := by decide +kernel
theorem d_C_digest_14 : decode c_C_digest 14 = .ok (.if_icmp .eq 14, 3) := by decide +kernel
theorem d_C_digest_17 : decode c_C_digest 17 = .ok (.lload_n 1, 1) := by decide +kernel
theorem d_C_digest_18 : decode c_C_digest 18 = .ok (.aload_n 0, 1) := by decide +kernel
theorem d_C_digest_19 : decode c_C_digest 19 = .ok (.iload_n 3, 1) := by decide +kernel
theorem d_C_digest_20 : decode c_C_digest 20 = .ok (.invokevirtual 198, 3) := by decide +kernel
theorem d_C_digest_23 : decode c_C_digest 23 = .ok (.i2l, 1) := by decide +kernel
theorem d_C_digest_24 : decode c_C_digest 24 = .ok (.invokestatic 201, 3) := by decide +kernel
theorem d_C_digest_27 : decode c_C_digest 27 = .ok (.lstore_n 1, 1) := by decide +kernel
theorem d_C_digest_28 : decode c_C_digest 28 = .ok (.iinc 3 1, 3) := by decide +kernel
theorem d_C_digest_31 : decode c_C_digest 31 = .ok (.goto (-25), 3) := by decide +kernel
theorem d_C_digest_34 : decode c_C_digest 34 = .ok (.iconst 0, 1) := by decide +kernel
theorem d_C_digest_35 : decode c_C_digest 35 = .ok (.istore_n 3, 1) := by decide +kernel
theorem d_C_digest_36 : decode c_C_digest 36 = .ok (.iload_n 3, 1) := by decide +kernel
theorem d_C_digest_37 : decode c_C_digest 37 = .ok (.iconst 2, 1) := by decide +kernel
theorem d_C_digest_38 : decode c_C_digest 38 = .ok (.if_icmp .ge 32, 3) := by decide +kernel
theorem d_C_digest_41 : decode c_C_digest 41 = .ok (.aload_n 0, 1) := by decide +kernel
theorem d_C_digest_42 : decode c_C_digest 42 = .ok (.getfield 11, 3) := by decide +kernel
theorem d_C_digest_45 : decode c_C_digest 45 = .ok (.iload_n 3, 1) := by decide +kernel
theorem d_C_digest_46 : decode c_C_digest 46 = .ok (.aaload, 1) := by decide +kernel
theorem d_C_digest_47 : decode c_C_digest 47 = .ok (.getfield 39, 3) := by decide +kernel
theorem d_C_digest_50 : decode c_C_digest 50 = .ok (.ifCond .eq 14, 3) := by decide +kernel
theorem d_C_digest_53 : decode c_C_digest 53 = .ok (.aload_n 0, 1) := by decide +kernel
theorem d_C_digest_54 : decode c_C_digest 54 = .ok (.getfield 11, 3) := by decide +kernel
theorem d_C_digest_57 : decode c_C_digest 57 = .ok (.iload_n 3, 1) := by decide +kernel
theorem d_C_digest_58 : decode c_C_digest 58 = .ok (.aaload, 1) := by decide +kernel
theorem d_C_digest_59 : decode c_C_digest 59 = .ok (.lload_n 1, 1) := by decide +kernel
theorem d_C_digest_60 : decode c_C_digest 60 = .ok (.invokevirtual 205, 3) := by decide +kernel
theorem d_C_digest_63 : decode c_C_digest 63 = .ok (.lstore_n 1, 1) := by decide +kernel
theorem d_C_digest_64 : decode c_C_digest 64 = .ok (.iinc 3 1, 3) := by decide +kernel
theorem d_C_digest_67 : decode c_C_digest 67 = .ok (.goto (-31), 3) := by decide +kernel
theorem d_C_digest_70 : decode c_C_digest 70 = .ok (.lload_n 1, 1) := by decide +kernel
theorem d_C_digest_71 : decode c_C_digest 71 = .ok (.lreturn, 1) := by decide +kernel
theorem d_C_tableAt_0 : decode c_C_tableAt 0 = .ok (.iload_n 1, 1) := by decide +kernel
theorem d_C_tableAt_1 : decode c_C_tableAt 1 = .ok (.ifCond .lt 17, 3) := by decide +kernel
theorem d_C_tableAt_4 : decode c_C_tableAt 4 = .ok (.iload_n 1, 1) := by decide +kernel
theorem d_C_tableAt_5 : decode c_C_tableAt 5 = .ok (.iconst 2, 1) := by decide +kernel
theorem d_C_tableAt_6 : decode c_C_tableAt 6 = .ok (.if_icmp .ge 12, 3) := by decide +kernel
theorem d_C_tableAt_9 : decode c_C_tableAt 9 = .ok (.aload_n 0, 1) := by decide +kernel
theorem d_C_tableAt_10 : decode c_C_tableAt 10 = .ok (.getfield 11, 3) := by decide +kernel
theorem d_C_tableAt_13 : decode c_C_tableAt 13 = .ok (.iload_n 1, 1) := by decide +kernel
theorem d_C_tableAt_14 : decode c_C_tableAt 14 = .ok (.aaload, 1) := by decide +kernel
theorem d_C_tableAt_15 : decode c_C_tableAt 15 = .ok (.goto 4, 3) := by decide +kernel
theorem d_C_tableAt_18 : decode c_C_tableAt 18 = .ok (.aconst_null, 1) := by decide +kernel
theorem d_C_tableAt_19 : decode c_C_tableAt 19 = .ok (.areturn, 1) := by decide +kernel
theorem d_C_blockAt_0 : decode c_C_blockAt 0 = .ok (.aload_n 0, 1) := by decide +kernel
theorem d_C_blockAt_1 : decode c_C_blockAt 1 = .ok (.ifnull 22, 3) := by decide +kernel
theorem d_C_blockAt_4 : decode c_C_blockAt 4 = .ok (.iload_n 1, 1) := by decide +kernel
theorem d_C_blockAt_5 : decode c_C_blockAt 5 = .ok (.ifCond .lt 18, 3) := by decide +kernel
theorem d_C_blockAt_8 : decode c_C_blockAt 8 = .ok (.iload_n 1, 1) := by decide +kernel
theorem d_C_blockAt_9 : decode c_C_blockAt 9 = .ok (.bipush 8, 2) := by decide +kernel
theorem d_C_blockAt_11 : decode c_C_blockAt 11 = .ok (.if_icmp .ge 12, 3) := by decide +kernel
theorem d_C_blockAt_14 : decode c_C_blockAt 14 = .ok (.aload_n 0, 1) := by decide +kernel
theorem d_C_blockAt_15 : decode c_C_blockAt 15 = .ok (.getfield 182, 3) := by decide +kernel
theorem d_C_blockAt_18 : decode c_C_blockAt 18 = .ok (.iload_n 1, 1) := by decide +kernel
theorem d_C_blockAt_19 : decode c_C_blockAt 19 = .ok (.aaload, 1) := by decide +kernel
theorem d_C_blockAt_20 : decode c_C_blockAt 20 = .ok (.goto 4, 3) := by decide +kernel
theorem d_C_blockAt_23 : decode c_C_blockAt 23 = .ok (.aconst_null, 1) := by decide +kernel
theorem d_C_blockAt_24 : decode c_C_blockAt 24 = .ok (.areturn, 1) := by decide +kernel
theorem d_C_sheetAt_0 : decode c_C_sheetAt 0 = .ok (.iload_n 1, 1) := by decide +kernel
theorem d_C_sheetAt_1 : decode c_C_sheetAt 1 = .ok (.ifCond .lt 17, 3) := by decide +kernel
theorem d_C_sheetAt_4 : decode c_C_sheetAt 4 = .ok (.iload_n 1, 1) := by decide +kernel
theorem d_C_sheetAt_5 : decode c_C_sheetAt 5 = .ok (.iconst 4, 1) := by decide +kernel
theorem d_C_sheetAt_6 : decode c_C_sheetAt 6 = .ok (.if_icmp .ge 12, 3) := by decide +kernel
theorem d_C_sheetAt_9 : decode c_C_sheetAt 9 = .ok (.aload_n 0, 1) := by decide +kernel
theorem d_C_sheetAt_10 : decode c_C_sheetAt 10 = .ok (.getfield 17, 3) := by decide +kernel
theorem d_C_sheetAt_13 : decode c_C_sheetAt 13 = .ok (.iload_n 1, 1) := by decide +kernel
theorem d_C_sheetAt_14 : decode c_C_sheetAt 14 = .ok (.aaload, 1) := by decide +kernel
theorem d_C_sheetAt_15 : decode c_C_sheetAt 15 = .ok (.goto 4, 3) := by decide +kernel
theorem d_C_sheetAt_18 : decode c_C_sheetAt 18 = .ok (.aconst_null, 1) := by decide +kernel
theorem d_C_sheetAt_19 : decode c_C_sheetAt 19 = .ok (.areturn, 1) := by decide +kernel
theorem d_C_found_0 : decode c_C_found 0 = .ok (.aload_n 0, 1) := by decide +kernel
theorem d_C_found_1 : decode c_C_found 1 = .ok (.iload_n 1, 1) := by decide +kernel
theorem d_C_found_2 : decode c_C_found 2 = .ok (.putfield 193, 3) := by decide +kernel
theorem d_C_found_5 : decode c_C_found 5 = .ok (.bipush (-10), 2) := by decide +kernel
theorem d_C_found_7 : decode c_C_found 7 = .ok (.iload_n 1, 1) := by decide +kernel
theorem d_C_found_8 : decode c_C_found 8 = .ok (.isub, 1) := by decide +kernel
theorem d_C_found_9 : decode c_C_found 9 = .ok (.ireturn, 1) := by decide +kernel
theorem d_C_readBlock_0 : decode c_C_readBlock 0 = .ok (.aload_n 1, 1) := by decide +kernel
theorem d_C_readBlock_1 : decode c_C_readBlock 1 = .ok (.getfield 43, 3) := by decide +kernel
theorem d_C_readBlock_4 : decode c_C_readBlock 4 = .ok (.aload_n 1, 1) := by decide +kernel
theorem d_C_readBlock_5 : decode c_C_readBlock 5 = .ok (.getfield 209, 3) := by decide +kernel
theorem d_C_readBlock_8 : decode c_C_readBlock 8 = .ok (.isub, 1) := by decide +kernel
theorem d_C_readBlock_9 : decode c_C_readBlock 9 = .ok (.istore_n 2, 1) := by decide +kernel
theorem d_C_readBlock_10 : decode c_C_readBlock 10 = .ok (.iload_n 2, 1) := by decide +kernel
theorem d_C_readBlock_11 : decode c_C_readBlock 11 = .ok (.ifCond .le 17, 3) := by decide +kernel
theorem d_C_readBlock_14 : decode c_C_readBlock 14 = .ok (.aload_n 1, 1) := by decide +kernel
theorem d_C_readBlock_15 : decode c_C_readBlock 15 = .ok (.invokevirtual 212, 3) := by decide +kernel
theorem d_C_readBlock_18 : decode c_C_readBlock 18 = .ok (.aload_n 0, 1) := by decide +kernel
theorem d_C_readBlock_19 : decode c_C_readBlock 19 = .ok (.dup, 1) := by decide +kernel
theorem d_C_readBlock_20 : decode c_C_readBlock 20 = .ok (.getfield 190, 3) := by decide +kernel
theorem d_C_readBlock_23 : decode c_C_readBlock 23 = .ok (.iconst 1, 1) := by decide +kernel
theorem d_C_readBlock_24 : decode c_C_readBlock 24 = .ok (.iadd, 1) := by decide +kernel
theorem d_C_readBlock_25 : decode c_C_readBlock 25 = .ok (.putfield 190, 3) := by decide +kernel
theorem d_C_readBlock_28 : decode c_C_readBlock 28 = .ok (.iload_n 2, 1) := by decide +kernel
theorem d_C_readBlock_29 : decode c_C_readBlock 29 = .ok (.ireturn, 1) := by decide +kernel
theorem d_C_knownPairs_0 : decode c_C_knownPairs 0 = .ok (.aload_n 0, 1) := by decide +kernel
theorem d_C_knownPairs_1 : decode c_C_knownPairs 1 = .ok (.getfield 21, 3) := by decide +kernel
theorem d_C_knownPairs_4 : decode c_C_knownPairs 4 = .ok (.iconst 0, 1) := by decide +kernel
theorem d_C_knownPairs_5 : decode c_C_knownPairs 5 = .ok (.invokestatic 215, 3) := by decide +kernel
theorem d_C_knownPairs_8 : decode c_C_knownPairs 8 = .ok (.iconst 0, 1) := by decide +kernel
theorem d_C_knownPairs_9 : decode c_C_knownPairs 9 = .ok (.istore 5, 2) := by decide +kernel
theorem d_C_knownPairs_11 : decode c_C_knownPairs 11 = .ok (.iload 5, 2) := by decide +kernel
theorem d_C_knownPairs_13 : decode c_C_knownPairs 13 = .ok (.bipush 8, 2) := by decide +kernel
theorem d_C_knownPairs_15 : decode c_C_knownPairs 15 = .ok (.if_icmp .ge 23, 3) := by decide +kernel
theorem d_C_knownPairs_18 : decode c_C_knownPairs 18 = .ok (.aload_n 1, 1) := by decide +kernel
theorem d_C_knownPairs_19 : decode c_C_knownPairs 19 = .ok (.getfield 182, 3) := by decide +kernel
theorem d_C_knownPairs_22 : decode c_C_knownPairs 22 = .ok (.iload 5, 2) := by decide +kernel
theorem d_C_knownPairs_24 : decode c_C_knownPairs 24 = .ok (.aaload, 1) := by decide +kernel
theorem d_C_knownPairs_25 : decode c_C_knownPairs 25 = .ok (.aload_n 0, 1) := by decide +kernel
theorem d_C_knownPairs_26 : decode c_C_knownPairs 26 = .ok (.getfield 21, 3) := by decide +kernel
theorem d_C_knownPairs_29 : decode c_C_knownPairs 29 = .ok (.invokevirtual 221, 3) := by decide +kernel
theorem d_C_knownPairs_32 : decode c_C_knownPairs 32 = .ok (.iinc 5 1, 3) := by decide +kernel
theorem d_C_knownPairs_35 : decode c_C_knownPairs 35 = .ok (.goto (-24), 3) := by decide +kernel
theorem d_C_knownPairs_38 : decode c_C_knownPairs 38 = .ok (.iconst 0, 1) := by decide +kernel
theorem d_C_knownPairs_39 : decode c_C_knownPairs 39 = .ok (.istore 5, 2) := by decide +kernel
theorem d_C_knownPairs_41 : decode c_C_knownPairs 41 = .ok (.iconst 0, 1) := by decide +kernel
theorem d_C_knownPairs_42 : decode c_C_knownPairs 42 = .ok (.istore 6, 2) := by decide +kernel
theorem d_C_knownPairs_44 : decode c_C_knownPairs 44 = .ok (.iload 6, 2) := by decide +kernel
theorem d_C_knownPairs_46 : decode c_C_knownPairs 46 = .ok (.bipush 8, 2) := by decide +kernel
theorem d_C_knownPairs_48 : decode c_C_knownPairs 48 = .ok (.if_icmp .ge 31, 3) := by decide +kernel
theorem d_C_knownPairs_51 : decode c_C_knownPairs 51 = .ok (.iload 5, 2) := by decide +kernel
theorem d_C_knownPairs_53 : decode c_C_knownPairs 53 = .ok (.aload_n 2, 1) := by decide +kernel
theorem d_C_knownPairs_54 : decode c_C_knownPairs 54 = .ok (.getfield 182, 3) := by decide +kernel
theorem d_C_knownPairs_57 : decode c_C_knownPairs 57 = .ok (.iload 6, 2) := by decide +kernel
theorem d_C_knownPairs_59 : decode c_C_knownPairs 59 = .ok (.aaload, 1) := by decide +kernel
theorem d_C_knownPairs_60 : decode c_C_knownPairs 60 = .ok (.aload_n 0, 1) := by decide +kernel
theorem d_C_knownPairs_61 : decode c_C_knownPairs 61 = .ok (.getfield 21, 3) := by decide +kernel
theorem d_C_knownPairs_64 : decode c_C_knownPairs 64 = .ok (.iload_n 3, 1) := by decide +kernel
theorem d_C_knownPairs_65 : decode c_C_knownPairs 65 = .ok (.iload 4, 2) := by decide +kernel
theorem d_C_knownPairs_67 : decode c_C_knownPairs 67 = .ok (.invokevirtual 225, 3) := by decide +kernel
theorem d_C_knownPairs_70 : decode c_C_knownPairs 70 = .ok (.iadd, 1) := by decide +kernel
theorem d_C_knownPairs_71 : decode c_C_knownPairs 71 = .ok (.istore 5, 2) := by decide +kernel
theorem d_C_knownPairs_73 : decode c_C_knownPairs 73 = .ok (.iinc 6 1, 3) := by decide +kernel
theorem d_C_knownPairs_76 : decode c_C_knownPairs 76 = .ok (.goto (-32), 3) := by decide +kernel
theorem d_C_knownPairs_79 : decode c_C_knownPairs 79 = .ok (.iload 5, 2) := by decide +kernel
theorem d_C_knownPairs_81 : decode c_C_knownPairs 81 = .ok (.ireturn, 1) := by decide +kernel
theorem d_C_mixed_0 : decode c_C_mixed 0 = .ok (.ldc2_w 229, 3) := by decide +kernel
theorem d_C_mixed_3 : decode c_C_mixed 3 = .ok (.lload_n 0, 1) := by decide +kernel
theorem d_C_mixed_4 : decode c_C_mixed 4 = .ok (.lmul, 1) := by decide +kernel
theorem d_C_mixed_5 : decode c_C_mixed 5 = .ok (.lload_n 2, 1) := by decide +kernel
theorem d_C_mixed_6 : decode c_C_mixed 6 = .ok (.ladd, 1) := by decide +kernel
theorem d_C_mixed_7 : decode c_C_mixed 7 = .ok (.lreturn, 1) := by decide +kernel
theorem d_C_isValue_0 : decode c_C_isValue 0 = .ok (.iload_n 0, 1) := by decide +kernel
theorem d_C_isValue_1 : decode c_C_isValue 1 = .ok (.sipush (-1000), 3) := by decide +kernel
theorem d_C_isValue_4 : decode c_C_isValue 4 = .ok (.if_icmp .lt 14, 3) := by decide +kernel
theorem d_C_isValue_7 : decode c_C_isValue 7 = .ok (.iload_n 0, 1) := by decide +kernel
theorem d_C_isValue_8 : decode c_C_isValue 8 = .ok (.sipush 1000, 3) := by decide +kernel
theorem d_C_isValue_11 : decode c_C_isValue 11 = .ok (.if_icmp .gt 7, 3) := by decide +kernel
theorem d_C_isValue_14 : decode c_C_isValue 14 = .ok (.iconst 1, 1) := by decide +kernel
theorem d_C_isValue_15 : decode c_C_isValue 15 = .ok (.goto 4, 3) := by decide +kernel
theorem d_C_isValue_18 : decode c_C_isValue 18 = .ok (.iconst 0, 1) := by decide +kernel
theorem d_C_isValue_19 : decode c_C_isValue 19 = .ok (.ireturn, 1) := by decide +kernel
theorem d_C_isRow_0 : decode c_C_isRow 0 = .ok (.iload_n 0, 1) := by decide +kernel
theorem d_C_isRow_1 : decode c_C_isRow 1 = .ok (.ifCond .lt 29, 3) := by decide +kernel
theorem d_C_isRow_4 : decode c_C_isRow 4 = .ok (.iload_n 0, 1) := by decide +kernel
theorem d_C_isRow_5 : decode c_C_isRow 5 = .ok (.bipush 100, 2) := by decide +kernel
theorem d_C_isRow_7 : decode c_C_isRow 7 = .ok (.if_icmp .ge 23, 3) := by decide +kernel
theorem d_C_isRow_10 : decode c_C_isRow 10 = .ok (.iload_n 1, 1) := by decide +kernel
theorem d_C_isRow_11 : decode c_C_isRow 11 = .ok (.ifCond .lt 19, 3) := by decide +kernel
theorem d_C_isRow_14 : decode c_C_isRow 14 = .ok (.iload_n 1, 1) := by decide +kernel
theorem d_C_isRow_15 : decode c_C_isRow 15 = .ok (.iconst 4, 1) := by decide +kernel
theorem d_C_isRow_16 : decode c_C_isRow 16 = .ok (.if_icmp .ge 14, 3) := by decide +kernel
theorem d_C_isRow_19 : decode c_C_isRow 19 = .ok (.iload_n 2, 1) := by decide +kernel
theorem d_C_isRow_20 : decode c_C_isRow 20 = .ok (.invokestatic 98, 3) := by decide +kernel
theorem d_C_isRow_23 : decode c_C_isRow 23 = .ok (.ifCond .eq 7, 3) := by decide +kernel
theorem d_C_isRow_26 : decode c_C_isRow 26 = .ok (.iconst 1, 1) := by decide +kernel
theorem d_C_isRow_27 : decode c_C_isRow 27 = .ok (.goto 4, 3) := by decide +kernel
theorem d_C_isRow_30 : decode c_C_isRow 30 = .ok (.iconst 0, 1) := by decide +kernel
theorem d_C_isRow_31 : decode c_C_isRow 31 = .ok (.ireturn, 1) := by decide +kernel
theorem d_C_isKeeper_0 : decode c_C_isKeeper 0 = .ok (.iload_n 0, 1) := by decide +kernel
theorem d_C_isKeeper_1 : decode c_C_isKeeper 1 = .ok (.tableswitch 80 0 3 #[31, 31, 52, 58], 31) := by decide +kernel
theorem d_C_isKeeper_32 : decode c_C_isKeeper 32 = .ok (.iload_n 1, 1) := by decide +kernel
theorem d_C_isKeeper_33 : decode c_C_isKeeper 33 = .ok (.iconst 1, 1) := by decide +kernel
theorem d_C_isKeeper_34 : decode c_C_isKeeper 34 = .ok (.if_icmp .lt 17, 3) := by decide +kernel
theorem d_C_isKeeper_37 : decode c_C_isKeeper 37 = .ok (.iload_n 1, 1) := by decide +kernel
theorem d_C_isKeeper_38 : decode c_C_isKeeper 38 = .ok (.bipush 12, 2) := by decide +kernel
theorem d_C_isKeeper_40 : decode c_C_isKeeper 40 = .ok (.if_icmp .gt 11, 3) := by decide +kernel
theorem d_C_isKeeper_43 : decode c_C_isKeeper 43 = .ok (.iload_n 2, 1) := by decide +kernel
theorem d_C_isKeeper_44 : decode c_C_isKeeper 44 = .ok (.ifCond .ne 7, 3) := by decide +kernel
theorem d_C_isKeeper_47 : decode c_C_isKeeper 47 = .ok (.iconst 1, 1) := by decide +kernel
theorem d_C_isKeeper_48 : decode c_C_isKeeper 48 = .ok (.goto 4, 3) := by decide +kernel
theorem d_C_isKeeper_51 : decode c_C_isKeeper 51 = .ok (.iconst 0, 1) := by decide +kernel
theorem d_C_isKeeper_52 : decode c_C_isKeeper 52 = .ok (.ireturn, 1) := by decide +kernel
theorem d_C_isKeeper_53 : decode c_C_isKeeper 53 = .ok (.iload_n 1, 1) := by decide +kernel
theorem d_C_isKeeper_54 : decode c_C_isKeeper 54 = .ok (.iload_n 2, 1) := by decide +kernel
theorem d_C_isKeeper_55 : decode c_C_isKeeper 55 = .ok (.invokestatic 143, 3) := by decide +kernel
theorem d_C_isKeeper_58 : decode c_C_isKeeper 58 = .ok (.ireturn, 1) := by decide +kernel
theorem d_C_isKeeper_59 : decode c_C_isKeeper 59 = .ok (.iload_n 1, 1) := by decide +kernel
theorem d_C_isKeeper_60 : decode c_C_isKeeper 60 = .ok (.iconst 1, 1) := by decide +kernel
theorem d_C_isKeeper_61 : decode c_C_isKeeper 61 = .ok (.if_icmp .lt 18, 3) := by decide +kernel
theorem d_C_isKeeper_64 : decode c_C_isKeeper 64 = .ok (.iload_n 1, 1) := by decide +kernel
theorem d_C_isKeeper_65 : decode c_C_isKeeper 65 = .ok (.sipush 1000, 3) := by decide +kernel
theorem d_C_isKeeper_68 : decode c_C_isKeeper 68 = .ok (.if_icmp .gt 11, 3) := by decide +kernel
theorem d_C_isKeeper_71 : decode c_C_isKeeper 71 = .ok (.iload_n 2, 1) := by decide +kernel
theorem d_C_isKeeper_72 : decode c_C_isKeeper 72 = .ok (.ifCond .ne 7, 3) := by decide +kernel
theorem d_C_isKeeper_75 : decode c_C_isKeeper 75 = .ok (.iconst 1, 1) := by decide +kernel
theorem d_C_isKeeper_76 : decode c_C_isKeeper 76 = .ok (.goto 4, 3) := by decide +kernel
theorem d_C_isKeeper_79 : decode c_C_isKeeper 79 = .ok (.iconst 0, 1) := by decide +kernel
theorem d_C_isKeeper_80 : decode c_C_isKeeper 80 = .ok (.ireturn, 1) := by decide +kernel
theorem d_C_isKeeper_81 : decode c_C_isKeeper 81 = .ok (.iconst 0, 1) := by decide +kernel
theorem d_C_isKeeper_82 : decode c_C_isKeeper 82 = .ok (.ireturn, 1) := by decide +kernel
theorem d_C_isModulus_0 : decode c_C_isModulus 0 = .ok (.iload_n 0, 1) := by decide +kernel
theorem d_C_isModulus_1 : decode c_C_isModulus 1 = .ok (.iconst 1, 1) := by decide +kernel
theorem d_C_isModulus_2 : decode c_C_isModulus 2 = .ok (.if_icmp .lt 22, 3) := by decide +kernel
theorem d_C_isModulus_5 : decode c_C_isModulus 5 = .ok (.iload_n 0, 1) := by decide +kernel
theorem d_C_isModulus_6 : decode c_C_isModulus 6 = .ok (.bipush 100, 2) := by decide +kernel
theorem d_C_isModulus_8 : decode c_C_isModulus 8 = .ok (.if_icmp .gt 16, 3) := by decide +kernel
theorem d_C_isModulus_11 : decode c_C_isModulus 11 = .ok (.iload_n 1, 1) := by decide +kernel
theorem d_C_isModulus_12 : decode c_C_isModulus 12 = .ok (.ifCond .lt 12, 3) := by decide +kernel
theorem d_C_isModulus_15 : decode c_C_isModulus 15 = .ok (.iload_n 1, 1) := by decide +kernel
theorem d_C_isModulus_16 : decode c_C_isModulus 16 = .ok (.iload_n 0, 1) := by decide +kernel
theorem d_C_isModulus_17 : decode c_C_isModulus 17 = .ok (.if_icmp .ge 7, 3) := by decide +kernel
theorem d_C_isModulus_20 : decode c_C_isModulus 20 = .ok (.iconst 1, 1) := by decide +kernel
theorem d_C_isModulus_21 : decode c_C_isModulus 21 = .ok (.goto 4, 3) := by decide +kernel
theorem d_C_isModulus_24 : decode c_C_isModulus 24 = .ok (.iconst 0, 1) := by decide +kernel
theorem d_C_isModulus_25 : decode c_C_isModulus 25 = .ok (.ireturn, 1) := by decide +kernel
theorem d_C_isCongruent_0 : decode c_C_isCongruent 0 = .ok (.iload_n 1, 1) := by decide +kernel
theorem d_C_isCongruent_1 : decode c_C_isCongruent 1 = .ok (.ifCond .le 14, 3) := by decide +kernel
theorem d_C_isCongruent_4 : decode c_C_isCongruent 4 = .ok (.iload_n 0, 1) := by decide +kernel
theorem d_C_isCongruent_5 : decode c_C_isCongruent 5 = .ok (.iload_n 1, 1) := by decide +kernel
theorem d_C_isCongruent_6 : decode c_C_isCongruent 6 = .ok (.irem, 1) := by decide +kernel
theorem d_C_isCongruent_7 : decode c_C_isCongruent 7 = .ok (.iload_n 2, 1) := by decide +kernel
theorem d_C_isCongruent_8 : decode c_C_isCongruent 8 = .ok (.if_icmp .ne 7, 3) := by decide +kernel
theorem d_C_isCongruent_11 : decode c_C_isCongruent 11 = .ok (.iconst 1, 1) := by decide +kernel
theorem d_C_isCongruent_12 : decode c_C_isCongruent 12 = .ok (.goto 4, 3) := by decide +kernel
theorem d_C_isCongruent_15 : decode c_C_isCongruent 15 = .ok (.iconst 0, 1) := by decide +kernel
theorem d_C_isCongruent_16 : decode c_C_isCongruent 16 = .ok (.ireturn, 1) := by decide +kernel
theorem d_C_isFact_0 : decode c_C_isFact 0 = .ok (.iload_n 0, 1) := by decide +kernel
theorem d_C_isFact_1 : decode c_C_isFact 1 = .ok (.bipush 10, 2) := by decide +kernel
theorem d_C_isFact_3 : decode c_C_isFact 3 = .ok (.if_icmp .lt 13, 3) := by decide +kernel
theorem d_C_isFact_6 : decode c_C_isFact 6 = .ok (.iload_n 0, 1) := by decide +kernel
theorem d_C_isFact_7 : decode c_C_isFact 7 = .ok (.bipush 14, 2) := by decide +kernel
theorem d_C_isFact_9 : decode c_C_isFact 9 = .ok (.if_icmp .ge 7, 3) := by decide +kernel
theorem d_C_isFact_12 : decode c_C_isFact 12 = .ok (.iconst 1, 1) := by decide +kernel
theorem d_C_isFact_13 : decode c_C_isFact 13 = .ok (.goto 4, 3) := by decide +kernel
theorem d_C_isFact_16 : decode c_C_isFact 16 = .ok (.iconst 0, 1) := by decide +kernel
theorem d_C_isFact_17 : decode c_C_isFact 17 = .ok (.istore_n 1, 1) := by decide +kernel
theorem d_C_isFact_18 : decode c_C_isFact 18 = .ok (.iload_n 0, 1) := by decide +kernel
theorem d_C_isFact_19 : decode c_C_isFact 19 = .ok (.ifCond .lt 9, 3) := by decide +kernel
theorem d_C_isFact_22 : decode c_C_isFact 22 = .ok (.iload_n 0, 1) := by decide +kernel
theorem d_C_isFact_23 : decode c_C_isFact 23 = .ok (.bipush 7, 2) := by decide +kernel
theorem d_C_isFact_25 : decode c_C_isFact 25 = .ok (.if_icmp .le 7, 3) := by decide +kernel
theorem d_C_isFact_28 : decode c_C_isFact 28 = .ok (.iload_n 1, 1) := by decide +kernel
theorem d_C_isFact_29 : decode c_C_isFact 29 = .ok (.ifCond .eq 7, 3) := by decide +kernel
theorem d_C_isFact_32 : decode c_C_isFact 32 = .ok (.iconst 1, 1) := by decide +kernel
theorem d_C_isFact_33 : decode c_C_isFact 33 = .ok (.goto 4, 3) := by decide +kernel
theorem d_C_isFact_36 : decode c_C_isFact 36 = .ok (.iconst 0, 1) := by decide +kernel
theorem d_C_isFact_37 : decode c_C_isFact 37 = .ok (.ireturn, 1) := by decide +kernel
theorem d_C_isGroupOrAll_0 : decode c_C_isGroupOrAll 0 = .ok (.iload_n 0, 1) := by decide +kernel
theorem d_C_isGroupOrAll_1 : decode c_C_isGroupOrAll 1 = .ok (.iconst (-1), 1) := by decide +kernel
theorem d_C_isGroupOrAll_2 : decode c_C_isGroupOrAll 2 = .ok (.if_icmp .lt 12, 3) := by decide +kernel
theorem d_C_isGroupOrAll_5 : decode c_C_isGroupOrAll 5 = .ok (.iload_n 0, 1) := by decide +kernel
theorem d_C_isGroupOrAll_6 : decode c_C_isGroupOrAll 6 = .ok (.iconst 4, 1) := by decide +kernel
theorem d_C_isGroupOrAll_7 : decode c_C_isGroupOrAll 7 = .ok (.if_icmp .ge 7, 3) := by decide +kernel
theorem d_C_isGroupOrAll_10 : decode c_C_isGroupOrAll 10 = .ok (.iconst 1, 1) := by decide +kernel
theorem d_C_isGroupOrAll_11 : decode c_C_isGroupOrAll 11 = .ok (.goto 4, 3) := by decide +kernel
theorem d_C_isGroupOrAll_14 : decode c_C_isGroupOrAll 14 = .ok (.iconst 0, 1) := by decide +kernel
theorem d_C_isGroupOrAll_15 : decode c_C_isGroupOrAll 15 = .ok (.ireturn, 1) := by decide +kernel
theorem d_C_isEnd_0 : decode c_C_isEnd 0 = .ok (.iload_n 0, 1) := by decide +kernel
theorem d_C_isEnd_1 : decode c_C_isEnd 1 = .ok (.ifCond .eq 8, 3) := by decide +kernel
theorem d_C_isEnd_4 : decode c_C_isEnd 4 = .ok (.iload_n 0, 1) := by decide +kernel
theorem d_C_isEnd_5 : decode c_C_isEnd 5 = .ok (.iconst 1, 1) := by decide +kernel
theorem d_C_isEnd_6 : decode c_C_isEnd 6 = .ok (.if_icmp .ne 7, 3) := by decide +kernel
theorem d_C_isEnd_9 : decode c_C_isEnd 9 = .ok (.iconst 1, 1) := by decide +kernel
theorem d_C_isEnd_10 : decode c_C_isEnd 10 = .ok (.goto 4, 3) := by decide +kernel
theorem d_C_isEnd_13 : decode c_C_isEnd 13 = .ok (.iconst 0, 1) := by decide +kernel
theorem d_C_isEnd_14 : decode c_C_isEnd 14 = .ok (.ireturn, 1) := by decide +kernel
theorem d_C_isForm_0 : decode c_C_isForm 0 = .ok (.iload_n 0, 1) := by decide +kernel
theorem d_C_isForm_1 : decode c_C_isForm 1 = .ok (.ifCond .lt 12, 3) := by decide +kernel
theorem d_C_isForm_4 : decode c_C_isForm 4 = .ok (.iload_n 0, 1) := by decide +kernel
theorem d_C_isForm_5 : decode c_C_isForm 5 = .ok (.iconst 2, 1) := by decide +kernel
theorem d_C_isForm_6 : decode c_C_isForm 6 = .ok (.if_icmp .gt 7, 3) := by decide +kernel
theorem d_C_isForm_9 : decode c_C_isForm 9 = .ok (.iconst 1, 1) := by decide +kernel
theorem d_C_isForm_10 : decode c_C_isForm 10 = .ok (.goto 4, 3) := by decide +kernel
theorem d_C_isForm_13 : decode c_C_isForm 13 = .ok (.iconst 0, 1) := by decide +kernel
theorem d_C_isForm_14 : decode c_C_isForm 14 = .ok (.ireturn, 1) := by decide +kernel
theorem d_M_init_0 : decode c_M_init 0 = .ok (.aload_n 0, 1) := by decide +kernel
theorem d_M_init_1 : decode c_M_init 1 = .ok (.invokespecial 1, 3) := by decide +kernel
theorem d_M_init_4 : decode c_M_init 4 = .ok (.aload_n 0, 1) := by decide +kernel
theorem d_M_init_5 : decode c_M_init 5 = .ok (.bipush 16, 2) := by decide +kernel
theorem d_M_init_7 : decode c_M_init 7 = .ok (.newarray .int, 2) := by decide +kernel
theorem d_M_init_9 : decode c_M_init 9 = .ok (.putfield 7, 3) := by decide +kernel
theorem d_M_init_12 : decode c_M_init 12 = .ok (.aload_n 0, 1) := by decide +kernel
theorem d_M_init_13 : decode c_M_init 13 = .ok (.sipush 192, 3) := by decide +kernel
theorem d_M_init_16 : decode c_M_init 16 = .ok (.newarray .int, 2) := by decide +kernel
theorem d_M_init_18 : decode c_M_init 18 = .ok (.putfield 13, 3) := by decide +kernel
theorem d_M_init_21 : decode c_M_init 21 = .ok (.aload_n 0, 1) := by decide +kernel
theorem d_M_init_22 : decode c_M_init 22 = .ok (.sipush 192, 3) := by decide +kernel
theorem d_M_init_25 : decode c_M_init 25 = .ok (.newarray .int, 2) := by decide +kernel
theorem d_M_init_27 : decode c_M_init 27 = .ok (.putfield 16, 3) := by decide +kernel
theorem d_M_init_30 : decode c_M_init 30 = .ok (.aload_n 0, 1) := by decide +kernel
theorem d_M_init_31 : decode c_M_init 31 = .ok (.sipush 192, 3) := by decide +kernel
theorem d_M_init_34 : decode c_M_init 34 = .ok (.newarray .int, 2) := by decide +kernel
theorem d_M_init_36 : decode c_M_init 36 = .ok (.putfield 19, 3) := by decide +kernel
theorem d_M_init_39 : decode c_M_init 39 = .ok (.aload_n 0, 1) := by decide +kernel
theorem d_M_init_40 : decode c_M_init 40 = .ok (.sipush 192, 3) := by decide +kernel
theorem d_M_init_43 : decode c_M_init 43 = .ok (.newarray .boolean, 2) := by decide +kernel
theorem d_M_init_45 : decode c_M_init 45 = .ok (.putfield 22, 3) := by decide +kernel
theorem d_M_init_48 : decode c_M_init 48 = .ok (.aload_n 0, 1) := by decide +kernel
theorem d_M_init_49 : decode c_M_init 49 = .ok (.sipush 192, 3) := by decide +kernel
theorem d_M_init_52 : decode c_M_init 52 = .ok (.newarray .boolean, 2) := by decide +kernel
theorem d_M_init_54 : decode c_M_init 54 = .ok (.putfield 26, 3) := by decide +kernel
theorem d_M_init_57 : decode c_M_init 57 = .ok (.aload_n 0, 1) := by decide +kernel
theorem d_M_init_58 : decode c_M_init 58 = .ok (.sipush 192, 3) := by decide +kernel
theorem d_M_init_61 : decode c_M_init 61 = .ok (.newarray .int, 2) := by decide +kernel
theorem d_M_init_63 : decode c_M_init 63 = .ok (.putfield 29, 3) := by decide +kernel
theorem d_M_init_66 : decode c_M_init 66 = .ok (.aload_n 0, 1) := by decide +kernel
theorem d_M_init_67 : decode c_M_init 67 = .ok (.bipush 16, 2) := by decide +kernel
theorem d_M_init_69 : decode c_M_init 69 = .ok (.newarray .int, 2) := by decide +kernel
theorem d_M_init_71 : decode c_M_init 71 = .ok (.putfield 32, 3) := by decide +kernel
theorem d_M_init_74 : decode c_M_init 74 = .ok (.aload_n 0, 1) := by decide +kernel
theorem d_M_init_75 : decode c_M_init 75 = .ok (.bipush 16, 2) := by decide +kernel
theorem d_M_init_77 : decode c_M_init 77 = .ok (.newarray .int, 2) := by decide +kernel
theorem d_M_init_79 : decode c_M_init 79 = .ok (.putfield 35, 3) := by decide +kernel
theorem d_M_init_82 : decode c_M_init 82 = .ok (.aload_n 0, 1) := by decide +kernel
theorem d_M_init_83 : decode c_M_init 83 = .ok (.bipush 64, 2) := by decide +kernel
theorem d_M_init_85 : decode c_M_init 85 = .ok (.newarray .int, 2) := by decide +kernel
theorem d_M_init_87 : decode c_M_init 87 = .ok (.putfield 38, 3) := by decide +kernel
theorem d_M_init_90 : decode c_M_init 90 = .ok (.aload_n 0, 1) := by decide +kernel
theorem d_M_init_91 : decode c_M_init 91 = .ok (.bipush 16, 2) := by decide +kernel
theorem d_M_init_93 : decode c_M_init 93 = .ok (.newarray .boolean, 2) := by decide +kernel
theorem d_M_init_95 : decode c_M_init 95 = .ok (.putfield 41, 3) := by decide +kernel
theorem d_M_init_98 : decode c_M_init 98 = .ok (.aload_n 0, 1) := by decide +kernel
theorem d_M_init_99 : decode c_M_init 99 = .ok (.iconst 2, 1) := by decide +kernel
theorem d_M_init_100 : decode c_M_init 100 = .ok (.newarray .boolean, 2) := by decide +kernel
theorem d_M_init_102 : decode c_M_init 102 = .ok (.putfield 44, 3) := by decide +kernel
theorem d_M_init_105 : decode c_M_init 105 = .ok (.aload_n 0, 1) := by decide +kernel
theorem d_M_init_106 : decode c_M_init 106 = .ok (.iconst 2, 1) := by decide +kernel
theorem d_M_init_107 : decode c_M_init 107 = .ok (.newarray .int, 2) := by decide +kernel
theorem d_M_init_109 : decode c_M_init 109 = .ok (.putfield 47, 3) := by decide +kernel
theorem d_M_init_112 : decode c_M_init 112 = .ok (.aload_n 0, 1) := by decide +kernel
theorem d_M_init_113 : decode c_M_init 113 = .ok (.bipush 8, 2) := by decide +kernel
theorem d_M_init_115 : decode c_M_init 115 = .ok (.newarray .int, 2) := by decide +kernel
theorem d_M_init_117 : decode c_M_init 117 = .ok (.putfield 50, 3) := by decide +kernel
theorem d_M_init_120 : decode c_M_init 120 = .ok (.aload_n 0, 1) := by decide +kernel
theorem d_M_init_121 : decode c_M_init 121 = .ok (.bipush 8, 2) := by decide +kernel
theorem d_M_init_123 : decode c_M_init 123 = .ok (.newarray .int, 2) := by decide +kernel
theorem d_M_init_125 : decode c_M_init 125 = .ok (.putfield 53, 3) := by decide +kernel
theorem d_M_init_128 : decode c_M_init 128 = .ok (.aload_n 0, 1) := by decide +kernel
theorem d_M_init_129 : decode c_M_init 129 = .ok (.bipush 8, 2) := by decide +kernel
theorem d_M_init_131 : decode c_M_init 131 = .ok (.newarray .int, 2) := by decide +kernel
theorem d_M_init_133 : decode c_M_init 133 = .ok (.putfield 56, 3) := by decide +kernel
theorem d_M_init_136 : decode c_M_init 136 = .ok (.aload_n 0, 1) := by decide +kernel
theorem d_M_init_137 : decode c_M_init 137 = .ok (.iconst 4, 1) := by decide +kernel
theorem d_M_init_138 : decode c_M_init 138 = .ok (.newarray .boolean, 2) := by decide +kernel
theorem d_M_init_140 : decode c_M_init 140 = .ok (.putfield 59, 3) := by decide +kernel
theorem d_M_init_143 : decode c_M_init 143 = .ok (.aload_n 0, 1) := by decide +kernel
theorem d_M_init_144 : decode c_M_init 144 = .ok (.iconst 4, 1) := by decide +kernel
theorem d_M_init_145 : decode c_M_init 145 = .ok (.newarray .int, 2) := by decide +kernel
theorem d_M_init_147 : decode c_M_init 147 = .ok (.putfield 62, 3) := by decide +kernel
theorem d_M_init_150 : decode c_M_init 150 = .ok (.aload_n 0, 1) := by decide +kernel
theorem d_M_init_151 : decode c_M_init 151 = .ok (.iconst 4, 1) := by decide +kernel
theorem d_M_init_152 : decode c_M_init 152 = .ok (.newarray .int, 2) := by decide +kernel
theorem d_M_init_154 : decode c_M_init 154 = .ok (.putfield 65, 3) := by decide +kernel
theorem d_M_init_157 : decode c_M_init 157 = .ok (.aload_n 0, 1) := by decide +kernel
theorem d_M_init_158 : decode c_M_init 158 = .ok (.sipush 160, 3) := by decide +kernel
theorem d_M_init_161 : decode c_M_init 161 = .ok (.newarray .int, 2) := by decide +kernel
theorem d_M_init_163 : decode c_M_init 163 = .ok (.putfield 68, 3) := by decide +kernel
theorem d_M_init_166 : decode c_M_init 166 = .ok (.aload_n 0, 1) := by decide +kernel
theorem d_M_init_167 : decode c_M_init 167 = .ok (.bipush 40, 2) := by decide +kernel
theorem d_M_init_169 : decode c_M_init 169 = .ok (.newarray .int, 2) := by decide +kernel
theorem d_M_init_171 : decode c_M_init 171 = .ok (.putfield 71, 3) := by decide +kernel
theorem d_M_init_174 : decode c_M_init 174 = .ok (.return_, 1) := by decide +kernel
theorem d_M_in_0 : decode c_M_in 0 = .ok (.iload_n 0, 1) := by decide +kernel
theorem d_M_in_1 : decode c_M_in 1 = .ok (.iload_n 1, 1) := by decide +kernel
theorem d_M_in_2 : decode c_M_in 2 = .ok (.if_icmp .lt 12, 3) := by decide +kernel
theorem d_M_in_5 : decode c_M_in 5 = .ok (.iload_n 0, 1) := by decide +kernel
theorem d_M_in_6 : decode c_M_in 6 = .ok (.iload_n 2, 1) := by decide +kernel
theorem d_M_in_7 : decode c_M_in 7 = .ok (.if_icmp .gt 7, 3) := by decide +kernel
theorem d_M_in_10 : decode c_M_in 10 = .ok (.iconst 1, 1) := by decide +kernel
theorem d_M_in_11 : decode c_M_in 11 = .ok (.goto 4, 3) := by decide +kernel
theorem d_M_in_14 : decode c_M_in 14 = .ok (.iconst 0, 1) := by decide +kernel
theorem d_M_in_15 : decode c_M_in 15 = .ok (.ireturn, 1) := by decide +kernel
theorem d_M_isTable_0 : decode c_M_isTable 0 = .ok (.iload_n 0, 1) := by decide +kernel
theorem d_M_isTable_1 : decode c_M_isTable 1 = .ok (.iconst 0, 1) := by decide +kernel
theorem d_M_isTable_2 : decode c_M_isTable 2 = .ok (.iconst 1, 1) := by decide +kernel
theorem d_M_isTable_3 : decode c_M_isTable 3 = .ok (.invokestatic 74, 3) := by decide +kernel
theorem d_M_isTable_6 : decode c_M_isTable 6 = .ok (.ireturn, 1) := by decide +kernel
theorem d_M_isBlock_0 : decode c_M_isBlock 0 = .ok (.iload_n 0, 1) := by decide +kernel
theorem d_M_isBlock_1 : decode c_M_isBlock 1 = .ok (.invokestatic 78, 3) := by decide +kernel
theorem d_M_isBlock_4 : decode c_M_isBlock 4 = .ok (.ifCond .eq 17, 3) := by decide +kernel
theorem d_M_isBlock_7 : decode c_M_isBlock 7 = .ok (.iload_n 1, 1) := by decide +kernel
theorem d_M_isBlock_8 : decode c_M_isBlock 8 = .ok (.iconst 0, 1) := by decide +kernel
theorem d_M_isBlock_9 : decode c_M_isBlock 9 = .ok (.bipush 7, 2) := by decide +kernel
theorem d_M_isBlock_11 : decode c_M_isBlock 11 = .ok (.invokestatic 74, 3) := by decide +kernel
theorem d_M_isBlock_14 : decode c_M_isBlock 14 = .ok (.ifCond .eq 7, 3) := by decide +kernel
theorem d_M_isBlock_17 : decode c_M_isBlock 17 = .ok (.iconst 1, 1) := by decide +kernel
theorem d_M_isBlock_18 : decode c_M_isBlock 18 = .ok (.goto 4, 3) := by decide +kernel
theorem d_M_isBlock_21 : decode c_M_isBlock 21 = .ok (.iconst 0, 1) := by decide +kernel
theorem d_M_isBlock_22 : decode c_M_isBlock 22 = .ok (.ireturn, 1) := by decide +kernel
theorem d_M_isRow_0 : decode c_M_isRow 0 = .ok (.iload_n 0, 1) := by decide +kernel
theorem d_M_isRow_1 : decode c_M_isRow 1 = .ok (.iconst 0, 1) := by decide +kernel
theorem d_M_isRow_2 : decode c_M_isRow 2 = .ok (.bipush 99, 2) := by decide +kernel
theorem d_M_isRow_4 : decode c_M_isRow 4 = .ok (.invokestatic 74, 3) := by decide +kernel
theorem d_M_isRow_7 : decode c_M_isRow 7 = .ok (.ifCond .eq 29, 3) := by decide +kernel
theorem d_M_isRow_10 : decode c_M_isRow 10 = .ok (.iload_n 1, 1) := by decide +kernel
theorem d_M_isRow_11 : decode c_M_isRow 11 = .ok (.iconst 0, 1) := by decide +kernel
theorem d_M_isRow_12 : decode c_M_isRow 12 = .ok (.iconst 3, 1) := by decide +kernel
theorem d_M_isRow_13 : decode c_M_isRow 13 = .ok (.invokestatic 74, 3) := by decide +kernel
theorem d_M_isRow_16 : decode c_M_isRow 16 = .ok (.ifCond .eq 20, 3) := by decide +kernel
theorem d_M_isRow_19 : decode c_M_isRow 19 = .ok (.iload_n 2, 1) := by decide +kernel
theorem d_M_isRow_20 : decode c_M_isRow 20 = .ok (.sipush (-1000), 3) := by decide +kernel
theorem d_M_isRow_23 : decode c_M_isRow 23 = .ok (.sipush 1000, 3) := by decide +kernel
theorem d_M_isRow_26 : decode c_M_isRow 26 = .ok (.invokestatic 74, 3) := by decide +kernel
theorem d_M_isRow_29 : decode c_M_isRow 29 = .ok (.ifCond .eq 7, 3) := by decide +kernel
theorem d_M_isRow_32 : decode c_M_isRow 32 = .ok (.iconst 1, 1) := by decide +kernel
theorem d_M_isRow_33 : decode c_M_isRow 33 = .ok (.goto 4, 3) := by decide +kernel
theorem d_M_isRow_36 : decode c_M_isRow 36 = .ok (.iconst 0, 1) := by decide +kernel
theorem d_M_isRow_37 : decode c_M_isRow 37 = .ok (.ireturn, 1) := by decide +kernel
theorem d_M_lays_0 : decode c_M_lays 0 = .ok (.bipush 12, 2) := by decide +kernel
theorem d_M_lays_2 : decode c_M_lays 2 = .ok (.iload_n 1, 1) := by decide +kernel
theorem d_M_lays_3 : decode c_M_lays 3 = .ok (.imul, 1) := by decide +kernel
theorem d_M_lays_4 : decode c_M_lays 4 = .ok (.aload_n 0, 1) := by decide +kernel
theorem d_M_lays_5 : decode c_M_lays 5 = .ok (.getfield 7, 3) := by decide +kernel
theorem d_M_lays_8 : decode c_M_lays 8 = .ok (.iload_n 1, 1) := by decide +kernel
theorem d_M_lays_9 : decode c_M_lays 9 = .ok (.iaload, 1) := by decide +kernel
theorem d_M_lays_10 : decode c_M_lays 10 = .ok (.iadd, 1) := by decide +kernel
theorem d_M_lays_11 : decode c_M_lays 11 = .ok (.istore 5, 2) := by decide +kernel
theorem d_M_lays_13 : decode c_M_lays 13 = .ok (.aload_n 0, 1) := by decide +kernel
theorem d_M_lays_14 : decode c_M_lays 14 = .ok (.getfield 13, 3) := by decide +kernel
theorem d_M_lays_17 : decode c_M_lays 17 = .ok (.iload 5, 2) := by decide +kernel
theorem d_M_lays_19 : decode c_M_lays 19 = .ok (.iload_n 2, 1) := by decide +kernel
theorem d_M_lays_20 : decode c_M_lays 20 = .ok (.iastore, 1) := by decide +kernel
theorem d_M_lays_21 : decode c_M_lays 21 = .ok (.aload_n 0, 1) := by decide +kernel
theorem d_M_lays_22 : decode c_M_lays 22 = .ok (.getfield 16, 3) := by decide +kernel
theorem d_M_lays_25 : decode c_M_lays 25 = .ok (.iload 5, 2) := by decide +kernel
theorem d_M_lays_27 : decode c_M_lays 27 = .ok (.iload_n 3, 1) := by decide +kernel
theorem d_M_lays_28 : decode c_M_lays 28 = .ok (.iastore, 1) := by decide +kernel
theorem d_M_lays_29 : decode c_M_lays 29 = .ok (.aload_n 0, 1) := by decide +kernel
theorem d_M_lays_30 : decode c_M_lays 30 = .ok (.getfield 19, 3) := by decide +kernel
theorem d_M_lays_33 : decode c_M_lays 33 = .ok (.iload 5, 2) := by decide +kernel
theorem d_M_lays_35 : decode c_M_lays 35 = .ok (.iload 4, 2) := by decide +kernel
theorem d_M_lays_37 : decode c_M_lays 37 = .ok (.iastore, 1) := by decide +kernel
theorem d_M_lays_38 : decode c_M_lays 38 = .ok (.aload_n 0, 1) := by decide +kernel
theorem d_M_lays_39 : decode c_M_lays 39 = .ok (.getfield 22, 3) := by decide +kernel
theorem d_M_lays_42 : decode c_M_lays 42 = .ok (.iload 5, 2) := by decide +kernel
theorem d_M_lays_44 : decode c_M_lays 44 = .ok (.iconst 0, 1) := by decide +kernel
theorem d_M_lays_45 : decode c_M_lays 45 = .ok (.bastore, 1) := by decide +kernel
theorem d_M_lays_46 : decode c_M_lays 46 = .ok (.aload_n 0, 1) := by decide +kernel
theorem d_M_lays_47 : decode c_M_lays 47 = .ok (.getfield 7, 3) := by decide +kernel
theorem d_M_lays_50 : decode c_M_lays 50 = .ok (.iload_n 1, 1) := by decide +kernel
theorem d_M_lays_51 : decode c_M_lays 51 = .ok (.dup2, 1) := by decide +kernel
theorem d_M_lays_52 : decode c_M_lays 52 = .ok (.iaload, 1) := by decide +kernel
theorem d_M_lays_53 : decode c_M_lays 53 = .ok (.iconst 1, 1) := by decide +kernel
theorem d_M_lays_54 : decode c_M_lays 54 = .ok (.iadd, 1) := by decide +kernel
theorem d_M_lays_55 : decode c_M_lays 55 = .ok (.iastore, 1) := by decide +kernel
theorem d_M_lays_56 : decode c_M_lays 56 = .ok (.return_, 1) := by decide +kernel
theorem d_M_row_0 : decode c_M_row 0 = .ok (.iload_n 1, 1) := by decide +kernel
theorem d_M_row_1 : decode c_M_row 1 = .ok (.iload_n 2, 1) := by decide +kernel
theorem d_M_row_2 : decode c_M_row 2 = .ok (.invokestatic 82, 3) := by decide +kernel
theorem d_M_row_5 : decode c_M_row 5 = .ok (.ifCond .eq 14, 3) := by decide +kernel
theorem d_M_row_8 : decode c_M_row 8 = .ok (.iload_n 3, 1) := by decide +kernel
theorem d_M_row_9 : decode c_M_row 9 = .ok (.iload 4, 2) := by decide +kernel
theorem d_M_row_11 : decode c_M_row 11 = .ok (.iload 5, 2) := by decide +kernel
theorem d_M_row_13 : decode c_M_row 13 = .ok (.invokestatic 86, 3) := by decide +kernel
theorem d_M_row_16 : decode c_M_row 16 = .ok (.ifCond .ne 6, 3) := by decide +kernel
theorem d_M_row_19 : decode c_M_row 19 = .ok (.bipush (-2), 2) := by decide +kernel
theorem d_M_row_21 : decode c_M_row 21 = .ok (.ireturn, 1) := by decide +kernel
theorem d_M_row_22 : decode c_M_row 22 = .ok (.aload_n 0, 1) := by decide +kernel
theorem d_M_row_23 : decode c_M_row 23 = .ok (.getfield 44, 3) := by decide +kernel
theorem d_M_row_26 : decode c_M_row 26 = .ok (.iload_n 1, 1) := by decide +kernel
theorem d_M_row_27 : decode c_M_row 27 = .ok (.baload, 1) := by decide +kernel
theorem d_M_row_28 : decode c_M_row 28 = .ok (.ifCond .eq 6, 3) := by decide +kernel
theorem d_M_row_31 : decode c_M_row 31 = .ok (.bipush (-3), 2) := by decide +kernel
theorem d_M_row_33 : decode c_M_row 33 = .ok (.ireturn, 1) := by decide +kernel
theorem d_M_row_34 : decode c_M_row 34 = .ok (.bipush 8, 2) := by decide +kernel
theorem d_M_row_36 : decode c_M_row 36 = .ok (.iload_n 1, 1) := by decide +kernel
theorem d_M_row_37 : decode c_M_row 37 = .ok (.imul, 1) := by decide +kernel
theorem d_M_row_38 : decode c_M_row 38 = .ok (.iload_n 2, 1) := by decide +kernel
theorem d_M_row_39 : decode c_M_row 39 = .ok (.iadd, 1) := by decide +kernel
theorem d_M_row_40 : decode c_M_row 40 = .ok (.istore 6, 2) := by decide +kernel
theorem d_M_row_42 : decode c_M_row 42 = .ok (.aload_n 0, 1) := by decide +kernel
theorem d_M_row_43 : decode c_M_row 43 = .ok (.getfield 7, 3) := by decide +kernel
theorem d_M_row_46 : decode c_M_row 46 = .ok (.iload 6, 2) := by decide +kernel
theorem d_M_row_48 : decode c_M_row 48 = .ok (.iaload, 1) := by decide +kernel
theorem d_M_row_49 : decode c_M_row 49 = .ok (.bipush 12, 2) := by decide +kernel
theorem d_M_row_51 : decode c_M_row 51 = .ok (.if_icmp .ne 6, 3) := by decide +kernel
theorem d_M_row_54 : decode c_M_row 54 = .ok (.bipush (-4), 2) := by decide +kernel
theorem d_M_row_56 : decode c_M_row 56 = .ok (.ireturn, 1) := by decide +kernel
theorem d_M_row_57 : decode c_M_row 57 = .ok (.aload_n 0, 1) := by decide +kernel
theorem d_M_row_58 : decode c_M_row 58 = .ok (.iload 6, 2) := by decide +kernel
theorem d_M_row_60 : decode c_M_row 60 = .ok (.iload_n 3, 1) := by decide +kernel
theorem d_M_row_61 : decode c_M_row 61 = .ok (.iload 4, 2) := by decide +kernel
theorem d_M_row_63 : decode c_M_row 63 = .ok (.iload 5, 2) := by decide +kernel
theorem d_M_row_65 : decode c_M_row 65 = .ok (.invokevirtual 89, 3) := by decide +kernel
theorem d_M_row_68 : decode c_M_row 68 = .ok (.aload_n 0, 1) := by decide +kernel
theorem d_M_row_69 : decode c_M_row 69 = .ok (.getfield 7, 3) := by decide +kernel
theorem d_M_row_72 : decode c_M_row 72 = .ok (.iload 6, 2) := by decide +kernel
theorem d_M_row_74 : decode c_M_row 74 = .ok (.iaload, 1) := by decide +kernel
theorem d_M_row_75 : decode c_M_row 75 = .ok (.iconst 1, 1) := by decide +kernel
theorem d_M_row_76 : decode c_M_row 76 = .ok (.isub, 1) := by decide +kernel
theorem d_M_row_77 : decode c_M_row 77 = .ok (.ireturn, 1) := by decide +kernel
theorem d_M_load_0 : decode c_M_load 0 = .ok (.iload_n 1, 1) := by decide +kernel
theorem d_M_load_1 : decode c_M_load 1 = .ok (.iload_n 2, 1) := by decide +kernel
theorem d_M_load_2 : decode c_M_load 2 = .ok (.invokestatic 82, 3) := by decide +kernel
theorem d_M_load_5 : decode c_M_load 5 = .ok (.ifCond .eq 37, 3) := by decide +kernel
theorem d_M_load_8 : decode c_M_load 8 = .ok (.iload_n 3, 1) := by decide +kernel
theorem d_M_load_9 : decode c_M_load 9 = .ok (.invokestatic 93, 3) := by decide +kernel
theorem d_M_load_12 : decode c_M_load 12 = .ok (.ifCond .eq 30, 3) := by decide +kernel
theorem d_M_load_15 : decode c_M_load 15 = .ok (.iload 4, 2) := by decide +kernel
theorem d_M_load_17 : decode c_M_load 17 = .ok (.invokestatic 93, 3) := by decide +kernel
theorem d_M_load_20 : decode c_M_load 20 = .ok (.ifCond .eq 22, 3) := by decide +kernel
theorem d_M_load_23 : decode c_M_load 23 = .ok (.iload 5, 2) := by decide +kernel
theorem d_M_load_25 : decode c_M_load 25 = .ok (.invokestatic 93, 3) := by decide +kernel
theorem d_M_load_28 : decode c_M_load 28 = .ok (.ifCond .eq 14, 3) := by decide +kernel
theorem d_M_load_31 : decode c_M_load 31 = .ok (.iload 6, 2) := by decide +kernel
theorem d_M_load_33 : decode c_M_load 33 = .ok (.iconst 1, 1) := by decide +kernel
theorem d_M_load_34 : decode c_M_load 34 = .ok (.bipush 12, 2) := by decide +kernel
theorem d_M_load_36 : decode c_M_load 36 = .ok (.invokestatic 74, 3) := by decide +kernel
theorem d_M_load_39 : decode c_M_load 39 = .ok (.ifCond .ne 6, 3) := by decide +kernel
theorem d_M_load_42 : decode c_M_load 42 = .ok (.bipush (-2), 2) := by decide +kernel
theorem d_M_load_44 : decode c_M_load 44 = .ok (.ireturn, 1) := by decide +kernel
theorem d_M_load_45 : decode c_M_load 45 = .ok (.aload_n 0, 1) := by decide +kernel
theorem d_M_load_46 : decode c_M_load 46 = .ok (.getfield 44, 3) := by decide +kernel
theorem d_M_load_49 : decode c_M_load 49 = .ok (.iload_n 1, 1) := by decide +kernel
theorem d_M_load_50 : decode c_M_load 50 = .ok (.baload, 1) := by decide +kernel
theorem d_M_load_51 : decode c_M_load 51 = .ok (.ifCond .eq 6, 3) := by decide +kernel
theorem d_M_load_54 : decode c_M_load 54 = .ok (.bipush (-3), 2) := by decide +kernel
theorem d_M_load_56 : decode c_M_load 56 = .ok (.ireturn, 1) := by decide +kernel
theorem d_M_load_57 : decode c_M_load 57 = .ok (.bipush 8, 2) := by decide +kernel
theorem d_M_load_59 : decode c_M_load 59 = .ok (.iload_n 1, 1) := by decide +kernel
theorem d_M_load_60 : decode c_M_load 60 = .ok (.imul, 1) := by decide +kernel
theorem d_M_load_61 : decode c_M_load 61 = .ok (.iload_n 2, 1) := by decide +kernel
theorem d_M_load_62 : decode c_M_load 62 = .ok (.iadd, 1) := by decide +kernel
theorem d_M_load_63 : decode c_M_load 63 = .ok (.istore 7, 2) := by decide +kernel
theorem d_M_load_65 : decode c_M_load 65 = .ok (.aload_n 0, 1) := by decide +kernel
theorem d_M_load_66 : decode c_M_load 66 = .ok (.getfield 7, 3) := by decide +kernel
theorem d_M_load_69 : decode c_M_load 69 = .ok (.iload 7, 2) := by decide +kernel
theorem d_M_load_71 : decode c_M_load 71 = .ok (.iaload, 1) := by decide +kernel
theorem d_M_load_72 : decode c_M_load 72 = .ok (.iload 6, 2) := by decide +kernel
theorem d_M_load_74 : decode c_M_load 74 = .ok (.iadd, 1) := by decide +kernel
theorem d_M_load_75 : decode c_M_load 75 = .ok (.bipush 12, 2) := by decide +kernel
theorem d_M_load_77 : decode c_M_load 77 = .ok (.if_icmp .le 6, 3) := by decide +kernel
theorem d_M_load_80 : decode c_M_load 80 = .ok (.bipush (-4), 2) := by decide +kernel
theorem d_M_load_82 : decode c_M_load 82 = .ok (.ireturn, 1) := by decide +kernel
theorem d_M_load_83 : decode c_M_load 83 = .ok (.aload_n 0, 1) := by decide +kernel
theorem d_M_load_84 : decode c_M_load 84 = .ok (.getfield 59, 3) := by decide +kernel
theorem d_M_load_87 : decode c_M_load 87 = .ok (.iload_n 3, 1) := by decide +kernel
theorem d_M_load_88 : decode c_M_load 88 = .ok (.baload, 1) := by decide +kernel
theorem d_M_load_89 : decode c_M_load 89 = .ok (.ifCond .eq 23, 3) := by decide +kernel
theorem d_M_load_92 : decode c_M_load 92 = .ok (.aload_n 0, 1) := by decide +kernel
theorem d_M_load_93 : decode c_M_load 93 = .ok (.getfield 59, 3) := by decide +kernel
theorem d_M_load_96 : decode c_M_load 96 = .ok (.iload 4, 2) := by decide +kernel
theorem d_M_load_98 : decode c_M_load 98 = .ok (.baload, 1) := by decide +kernel
theorem d_M_load_99 : decode c_M_load 99 = .ok (.ifCond .eq 13, 3) := by decide +kernel
theorem d_M_load_102 : decode c_M_load 102 = .ok (.aload_n 0, 1) := by decide +kernel
theorem d_M_load_103 : decode c_M_load 103 = .ok (.getfield 59, 3) := by decide +kernel
theorem d_M_load_106 : decode c_M_load 106 = .ok (.iload 5, 2) := by decide +kernel
theorem d_M_load_108 : decode c_M_load 108 = .ok (.baload, 1) := by decide +kernel
theorem d_M_load_109 : decode c_M_load 109 = .ok (.ifCond .ne 9, 3) := by decide +kernel
theorem d_M_load_112 : decode c_M_load 112 = .ok (.aload_n 0, 1) := by decide +kernel
theorem d_M_load_113 : decode c_M_load 113 = .ok (.iconst 1, 1) := by decide +kernel
theorem d_M_load_114 : decode c_M_load 114 = .ok (.invokevirtual 96, 3) := by decide +kernel
theorem d_M_load_117 : decode c_M_load 117 = .ok (.ireturn, 1) := by decide +kernel
theorem d_M_load_118 : decode c_M_load 118 = .ok (.aload_n 0, 1) := by decide +kernel
theorem d_M_load_119 : decode c_M_load 119 = .ok (.getfield 65, 3) := by decide +kernel
theorem d_M_load_122 : decode c_M_load 122 = .ok (.iload_n 3, 1) := by decide +kernel
theorem d_M_load_123 : decode c_M_load 123 = .ok (.iaload, 1) := by decide +kernel
theorem d_M_load_124 : decode c_M_load 124 = .ok (.iload 6, 2) := by decide +kernel
theorem d_M_load_126 : decode c_M_load 126 = .ok (.if_icmp .lt 27, 3) := by decide +kernel
theorem d_M_load_129 : decode c_M_load 129 = .ok (.aload_n 0, 1) := by decide +kernel
theorem d_M_load_130 : decode c_M_load 130 = .ok (.getfield 65, 3) := by decide +kernel
theorem d_M_load_133 : decode c_M_load 133 = .ok (.iload 4, 2) := by decide +kernel
theorem d_M_load_135 : decode c_M_load 135 = .ok (.iaload, 1) := by decide +kernel
theorem d_M_load_136 : decode c_M_load 136 = .ok (.iload 6, 2) := by decide +kernel
theorem d_M_load_138 : decode c_M_load 138 = .ok (.if_icmp .lt 15, 3) := by decide +kernel
theorem d_M_load_141 : decode c_M_load 141 = .ok (.aload_n 0, 1) := by decide +kernel
theorem d_M_load_142 : decode c_M_load 142 = .ok (.getfield 65, 3) := by decide +kernel
theorem d_M_load_145 : decode c_M_load 145 = .ok (.iload 5, 2) := by decide +kernel
theorem d_M_load_147 : decode c_M_load 147 = .ok (.iaload, 1) := by decide +kernel
theorem d_M_load_148 : decode c_M_load 148 = .ok (.iload 6, 2) := by decide +kernel
theorem d_M_load_150 : decode c_M_load 150 = .ok (.if_icmp .ge 9, 3) := by decide +kernel
theorem d_M_load_153 : decode c_M_load 153 = .ok (.aload_n 0, 1) := by decide +kernel
theorem d_M_load_154 : decode c_M_load 154 = .ok (.iconst 2, 1) := by decide +kernel
theorem d_M_load_155 : decode c_M_load 155 = .ok (.invokevirtual 96, 3) := by decide +kernel
theorem d_M_load_158 : decode c_M_load 158 = .ok (.ireturn, 1) := by decide +kernel
theorem d_M_load_159 : decode c_M_load 159 = .ok (.iconst 0, 1) := by decide +kernel
theorem d_M_load_160 : decode c_M_load 160 = .ok (.istore 8, 2) := by decide +kernel
theorem d_M_load_162 : decode c_M_load 162 = .ok (.iload 8, 2) := by decide +kernel
theorem d_M_load_164 : decode c_M_load 164 = .ok (.iload 6, 2) := by decide +kernel
theorem d_M_load_166 : decode c_M_load 166 = .ok (.if_icmp .ge 56, 3) := by decide +kernel
theorem d_M_load_169 : decode c_M_load 169 = .ok (.aload_n 0, 1) := by decide +kernel
theorem d_M_load_170 : decode c_M_load 170 = .ok (.getfield 68, 3) := by decide +kernel
theorem d_M_load_173 : decode c_M_load 173 = .ok (.bipush 40, 2) := by decide +kernel
theorem d_M_load_175 : decode c_M_load 175 = .ok (.iload_n 3, 1) := by decide +kernel
theorem d_M_load_176 : decode c_M_load 176 = .ok (.imul, 1) := by decide +kernel
theorem d_M_load_177 : decode c_M_load 177 = .ok (.iload 8, 2) := by decide +kernel
theorem d_M_load_179 : decode c_M_load 179 = .ok (.iadd, 1) := by decide +kernel
theorem d_M_load_180 : decode c_M_load 180 = .ok (.iaload, 1) := by decide +kernel
theorem d_M_load_181 : decode c_M_load 181 = .ok (.aload_n 0, 1) := by decide +kernel
theorem d_M_load_182 : decode c_M_load 182 = .ok (.getfield 68, 3) := by decide +kernel
theorem d_M_load_185 : decode c_M_load 185 = .ok (.bipush 40, 2) := by decide +kernel
theorem d_M_load_187 : decode c_M_load 187 = .ok (.iload 4, 2) := by decide +kernel
theorem d_M_load_189 : decode c_M_load 189 = .ok (.imul, 1) := by decide +kernel
theorem d_M_load_190 : decode c_M_load 190 = .ok (.iload 8, 2) := by decide +kernel
theorem d_M_load_192 : decode c_M_load 192 = .ok (.iadd, 1) := by decide +kernel
theorem d_M_load_193 : decode c_M_load 193 = .ok (.iaload, 1) := by decide +kernel
theorem d_M_load_194 : decode c_M_load 194 = .ok (.aload_n 0, 1) := by decide +kernel
theorem d_M_load_195 : decode c_M_load 195 = .ok (.getfield 68, 3) := by decide +kernel
theorem d_M_load_198 : decode c_M_load 198 = .ok (.bipush 40, 2) := by decide +kernel
theorem d_M_load_200 : decode c_M_load 200 = .ok (.iload 5, 2) := by decide +kernel
theorem d_M_load_202 : decode c_M_load 202 = .ok (.imul, 1) := by decide +kernel
theorem d_M_load_203 : decode c_M_load 203 = .ok (.iload 8, 2) := by decide +kernel
theorem d_M_load_205 : decode c_M_load 205 = .ok (.iadd, 1) := by decide +kernel
theorem d_M_load_206 : decode c_M_load 206 = .ok (.iaload, 1) := by decide +kernel
theorem d_M_load_207 : decode c_M_load 207 = .ok (.invokestatic 86, 3) := by decide +kernel
theorem d_M_load_210 : decode c_M_load 210 = .ok (.ifCond .ne 6, 3) := by decide +kernel
theorem d_M_load_213 : decode c_M_load 213 = .ok (.bipush (-2), 2) := by decide +kernel
theorem d_M_load_215 : decode c_M_load 215 = .ok (.ireturn, 1) := by decide +kernel
theorem d_M_load_216 : decode c_M_load 216 = .ok (.iinc 8 1, 3) := by decide +kernel
theorem d_M_load_219 : decode c_M_load 219 = .ok (.goto (-57), 3) := by decide +kernel
theorem d_M_load_222 : decode c_M_load 222 = .ok (.iconst 0, 1) := by decide +kernel
theorem d_M_load_223 : decode c_M_load 223 = .ok (.istore 8, 2) := by decide +kernel
theorem d_M_load_225 : decode c_M_load 225 = .ok (.iload 8, 2) := by decide +kernel
theorem d_M_load_227 : decode c_M_load 227 = .ok (.iload 6, 2) := by decide +kernel
theorem d_M_load_229 : decode c_M_load 229 = .ok (.if_icmp .ge 53, 3) := by decide +kernel
theorem d_M_load_232 : decode c_M_load 232 = .ok (.aload_n 0, 1) := by decide +kernel
theorem d_M_load_233 : decode c_M_load 233 = .ok (.iload 7, 2) := by decide +kernel
theorem d_M_load_235 : decode c_M_load 235 = .ok (.aload_n 0, 1) := by decide +kernel
theorem d_M_load_236 : decode c_M_load 236 = .ok (.getfield 68, 3) := by decide +kernel
theorem d_M_load_239 : decode c_M_load 239 = .ok (.bipush 40, 2) := by decide +kernel
theorem d_M_load_241 : decode c_M_load 241 = .ok (.iload_n 3, 1) := by decide +kernel
theorem d_M_load_242 : decode c_M_load 242 = .ok (.imul, 1) := by decide +kernel
theorem d_M_load_243 : decode c_M_load 243 = .ok (.iload 8, 2) := by decide +kernel
theorem d_M_load_245 : decode c_M_load 245 = .ok (.iadd, 1) := by decide +kernel
theorem d_M_load_246 : decode c_M_load 246 = .ok (.iaload, 1) := by decide +kernel
theorem d_M_load_247 : decode c_M_load 247 = .ok (.aload_n 0, 1) := by decide +kernel
theorem d_M_load_248 : decode c_M_load 248 = .ok (.getfield 68, 3) := by decide +kernel
theorem d_M_load_251 : decode c_M_load 251 = .ok (.bipush 40, 2) := by decide +kernel
theorem d_M_load_253 : decode c_M_load 253 = .ok (.iload 4, 2) := by decide +kernel
theorem d_M_load_255 : decode c_M_load 255 = .ok (.imul, 1) := by decide +kernel
theorem d_M_load_256 : decode c_M_load 256 = .ok (.iload 8, 2) := by decide +kernel
theorem d_M_load_258 : decode c_M_load 258 = .ok (.iadd, 1) := by decide +kernel
theorem d_M_load_259 : decode c_M_load 259 = .ok (.iaload, 1) := by decide +kernel
theorem d_M_load_260 : decode c_M_load 260 = .ok (.aload_n 0, 1) := by decide +kernel
theorem d_M_load_261 : decode c_M_load 261 = .ok (.getfield 68, 3) := by decide +kernel
theorem d_M_load_264 : decode c_M_load 264 = .ok (.bipush 40, 2) := by decide +kernel
theorem d_M_load_266 : decode c_M_load 266 = .ok (.iload 5, 2) := by decide +kernel
theorem d_M_load_268 : decode c_M_load 268 = .ok (.imul, 1) := by decide +kernel
theorem d_M_load_269 : decode c_M_load 269 = .ok (.iload 8, 2) := by decide +kernel
theorem d_M_load_271 : decode c_M_load 271 = .ok (.iadd, 1) := by decide +kernel
theorem d_M_load_272 : decode c_M_load 272 = .ok (.iaload, 1) := by decide +kernel
theorem d_M_load_273 : decode c_M_load 273 = .ok (.invokevirtual 89, 3) := by decide +kernel
theorem d_M_load_276 : decode c_M_load 276 = .ok (.iinc 8 1, 3) := by decide +kernel
theorem d_M_load_279 : decode c_M_load 279 = .ok (.goto (-54), 3) := by decide +kernel
theorem d_M_load_282 : decode c_M_load 282 = .ok (.aload_n 0, 1) := by decide +kernel
theorem d_M_load_283 : decode c_M_load 283 = .ok (.getfield 7, 3) := by decide +kernel
theorem d_M_load_286 : decode c_M_load 286 = .ok (.iload 7, 2) := by decide +kernel
theorem d_M_load_288 : decode c_M_load 288 = .ok (.iaload, 1) := by decide +kernel
theorem d_M_load_289 : decode c_M_load 289 = .ok (.ireturn, 1) := by decide +kernel
theorem d_M_keeper_0 : decode c_M_keeper 0 = .ok (.iload_n 2, 1) := by decide +kernel
theorem d_M_keeper_1 : decode c_M_keeper 1 = .ok (.tableswitch 84 0 2 #[27, 27, 52], 27) := by decide +kernel
theorem d_M_keeper_28 : decode c_M_keeper 28 = .ok (.iload_n 3, 1) := by decide +kernel
theorem d_M_keeper_29 : decode c_M_keeper 29 = .ok (.iconst 1, 1) := by decide +kernel
theorem d_M_keeper_30 : decode c_M_keeper 30 = .ok (.bipush 12, 2) := by decide +kernel
theorem d_M_keeper_32 : decode c_M_keeper 32 = .ok (.invokestatic 74, 3) := by decide +kernel
theorem d_M_keeper_35 : decode c_M_keeper 35 = .ok (.ifCond .eq 12, 3) := by decide +kernel
theorem d_M_keeper_38 : decode c_M_keeper 38 = .ok (.iload 4, 2) := by decide +kernel
theorem d_M_keeper_40 : decode c_M_keeper 40 = .ok (.ifCond .ne 7, 3) := by decide +kernel
theorem d_M_keeper_43 : decode c_M_keeper 43 = .ok (.iconst 1, 1) := by decide +kernel
theorem d_M_keeper_44 : decode c_M_keeper 44 = .ok (.goto 4, 3) := by decide +kernel
theorem d_M_keeper_47 : decode c_M_keeper 47 = .ok (.iconst 0, 1) := by decide +kernel
theorem d_M_keeper_48 : decode c_M_keeper 48 = .ok (.istore 5, 2) := by decide +kernel
theorem d_M_keeper_50 : decode c_M_keeper 50 = .ok (.goto 63, 3) := by decide +kernel
theorem d_M_keeper_53 : decode c_M_keeper 53 = .ok (.iload_n 3, 1) := by decide +kernel
theorem d_M_keeper_54 : decode c_M_keeper 54 = .ok (.iconst 1, 1) := by decide +kernel
theorem d_M_keeper_55 : decode c_M_keeper 55 = .ok (.bipush 100, 2) := by decide +kernel
theorem d_M_keeper_57 : decode c_M_keeper 57 = .ok (.invokestatic 74, 3) := by decide +kernel
theorem d_M_keeper_60 : decode c_M_keeper 60 = .ok (.ifCond .eq 19, 3) := by decide +kernel
theorem d_M_keeper_63 : decode c_M_keeper 63 = .ok (.iload 4, 2) := by decide +kernel
theorem d_M_keeper_65 : decode c_M_keeper 65 = .ok (.iconst 0, 1) := by decide +kernel
theorem d_M_keeper_66 : decode c_M_keeper 66 = .ok (.iload_n 3, 1) := by decide +kernel
theorem d_M_keeper_67 : decode c_M_keeper 67 = .ok (.iconst 1, 1) := by decide +kernel
theorem d_M_keeper_68 : decode c_M_keeper 68 = .ok (.isub, 1) := by decide +kernel
theorem d_M_keeper_69 : decode c_M_keeper 69 = .ok (.invokestatic 74, 3) := by decide +kernel
theorem d_M_keeper_72 : decode c_M_keeper 72 = .ok (.ifCond .eq 7, 3) := by decide +kernel
theorem d_M_keeper_75 : decode c_M_keeper 75 = .ok (.iconst 1, 1) := by decide +kernel
theorem d_M_keeper_76 : decode c_M_keeper 76 = .ok (.goto 4, 3) := by decide +kernel
theorem d_M_keeper_79 : decode c_M_keeper 79 = .ok (.iconst 0, 1) := by decide +kernel
theorem d_M_keeper_80 : decode c_M_keeper 80 = .ok (.istore 5, 2) := by decide +kernel
theorem d_M_keeper_82 : decode c_M_keeper 82 = .ok (.goto 31, 3) := by decide +kernel
theorem d_M_keeper_85 : decode c_M_keeper 85 = .ok (.iload_n 2, 1) := by decide +kernel
theorem d_M_keeper_86 : decode c_M_keeper 86 = .ok (.iconst 3, 1) := by decide +kernel
theorem d_M_keeper_87 : decode c_M_keeper 87 = .ok (.if_icmp .ne 23, 3) := by decide +kernel
theorem d_M_keeper_90 : decode c_M_keeper 90 = .ok (.iload_n 3, 1) := by decide +kernel
theorem d_M_keeper_91 : decode c_M_keeper 91 = .ok (.iconst 1, 1) := by decide +kernel
theorem d_M_keeper_92 : decode c_M_keeper 92 = .ok (.sipush 1000, 3) := by decide +kernel
theorem d_M_keeper_95 : decode c_M_keeper 95 = .ok (.invokestatic 74, 3) := by decide +kernel
theorem d_M_keeper_98 : decode c_M_keeper 98 = .ok (.ifCond .eq 12, 3) := by decide +kernel
theorem d_M_keeper_101 : decode c_M_keeper 101 = .ok (.iload 4, 2) := by decide +kernel
theorem d_M_keeper_103 : decode c_M_keeper 103 = .ok (.ifCond .ne 7, 3) := by decide +kernel
theorem d_M_keeper_106 : decode c_M_keeper 106 = .ok (.iconst 1, 1) := by decide +kernel
theorem d_M_keeper_107 : decode c_M_keeper 107 = .ok (.goto 4, 3) := by decide +kernel
theorem d_M_keeper_110 : decode c_M_keeper 110 = .ok (.iconst 0, 1) := by decide +kernel
theorem d_M_keeper_111 : decode c_M_keeper 111 = .ok (.istore 5, 2) := by decide +kernel
theorem d_M_keeper_113 : decode c_M_keeper 113 = .ok (.iload_n 1, 1) := by decide +kernel
theorem d_M_keeper_114 : decode c_M_keeper 114 = .ok (.invokestatic 78, 3) := by decide +kernel
theorem d_M_keeper_117 : decode c_M_keeper 117 = .ok (.ifCond .eq 8, 3) := by decide +kernel
theorem d_M_keeper_120 : decode c_M_keeper 120 = .ok (.iload 5, 2) := by decide +kernel
theorem d_M_keeper_122 : decode c_M_keeper 122 = .ok (.ifCond .ne 6, 3) := by decide +kernel
theorem d_M_keeper_125 : decode c_M_keeper 125 = .ok (.bipush (-2), 2) := by decide +kernel
theorem d_M_keeper_127 : decode c_M_keeper 127 = .ok (.ireturn, 1) := by decide +kernel
theorem d_M_keeper_128 : decode c_M_keeper 128 = .ok (.aload_n 0, 1) := by decide +kernel
theorem d_M_keeper_129 : decode c_M_keeper 129 = .ok (.getfield 44, 3) := by decide +kernel
theorem d_M_keeper_132 : decode c_M_keeper 132 = .ok (.iload_n 1, 1) := by decide +kernel
theorem d_M_keeper_133 : decode c_M_keeper 133 = .ok (.baload, 1) := by decide +kernel
theorem d_M_keeper_134 : decode c_M_keeper 134 = .ok (.ifCond .eq 6, 3) := by decide +kernel
theorem d_M_keeper_137 : decode c_M_keeper 137 = .ok (.bipush (-3), 2) := by decide +kernel
theorem d_M_keeper_139 : decode c_M_keeper 139 = .ok (.ireturn, 1) := by decide +kernel
theorem d_M_keeper_140 : decode c_M_keeper 140 = .ok (.aload_n 0, 1) := by decide +kernel
theorem d_M_keeper_141 : decode c_M_keeper 141 = .ok (.getfield 47, 3) := by decide +kernel
theorem d_M_keeper_144 : decode c_M_keeper 144 = .ok (.iload_n 1, 1) := by decide +kernel
theorem d_M_keeper_145 : decode c_M_keeper 145 = .ok (.iaload, 1) := by decide +kernel
theorem d_M_keeper_146 : decode c_M_keeper 146 = .ok (.iconst 4, 1) := by decide +kernel
theorem d_M_keeper_147 : decode c_M_keeper 147 = .ok (.if_icmp .ne 6, 3) := by decide +kernel
theorem d_M_keeper_150 : decode c_M_keeper 150 = .ok (.bipush (-4), 2) := by decide +kernel
theorem d_M_keeper_152 : decode c_M_keeper 152 = .ok (.ireturn, 1) := by decide +kernel
theorem d_M_keeper_153 : decode c_M_keeper 153 = .ok (.iconst 4, 1) := by decide +kernel
theorem d_M_keeper_154 : decode c_M_keeper 154 = .ok (.iload_n 1, 1) := by decide +kernel
theorem d_M_keeper_155 : decode c_M_keeper 155 = .ok (.imul, 1) := by decide +kernel
theorem d_M_keeper_156 : decode c_M_keeper 156 = .ok (.aload_n 0, 1) := by decide +kernel
theorem d_M_keeper_157 : decode c_M_keeper 157 = .ok (.getfield 47, 3) := by decide +kernel
theorem d_M_keeper_160 : decode c_M_keeper 160 = .ok (.iload_n 1, 1) := by decide +kernel
theorem d_M_keeper_161 : decode c_M_keeper 161 = .ok (.iaload, 1) := by decide +kernel
theorem d_M_keeper_162 : decode c_M_keeper 162 = .ok (.iadd, 1) := by decide +kernel
theorem d_M_keeper_163 : decode c_M_keeper 163 = .ok (.istore 6, 2) := by decide +kernel
theorem d_M_keeper_165 : decode c_M_keeper 165 = .ok (.aload_n 0, 1) := by decide +kernel
theorem d_M_keeper_166 : decode c_M_keeper 166 = .ok (.getfield 50, 3) := by decide +kernel
theorem d_M_keeper_169 : decode c_M_keeper 169 = .ok (.iload 6, 2) := by decide +kernel
theorem d_M_keeper_171 : decode c_M_keeper 171 = .ok (.iload_n 2, 1) := by decide +kernel
theorem d_M_keeper_172 : decode c_M_keeper 172 = .ok (.iastore, 1) := by decide +kernel
theorem d_M_keeper_173 : decode c_M_keeper 173 = .ok (.aload_n 0, 1) := by decide +kernel
theorem d_M_keeper_174 : decode c_M_keeper 174 = .ok (.getfield 53, 3) := by decide +kernel
theorem d_M_keeper_177 : decode c_M_keeper 177 = .ok (.iload 6, 2) := by decide +kernel
theorem d_M_keeper_179 : decode c_M_keeper 179 = .ok (.iload_n 3, 1) := by decide +kernel
theorem d_M_keeper_180 : decode c_M_keeper 180 = .ok (.iastore, 1) := by decide +kernel
theorem d_M_keeper_181 : decode c_M_keeper 181 = .ok (.aload_n 0, 1) := by decide +kernel
theorem d_M_keeper_182 : decode c_M_keeper 182 = .ok (.getfield 56, 3) := by decide +kernel
theorem d_M_keeper_185 : decode c_M_keeper 185 = .ok (.iload 6, 2) := by decide +kernel
theorem d_M_keeper_187 : decode c_M_keeper 187 = .ok (.iload 4, 2) := by decide +kernel
theorem d_M_keeper_189 : decode c_M_keeper 189 = .ok (.iastore, 1) := by decide +kernel
theorem d_M_keeper_190 : decode c_M_keeper 190 = .ok (.aload_n 0, 1) := by decide +kernel
theorem d_M_keeper_191 : decode c_M_keeper 191 = .ok (.getfield 47, 3) := by decide +kernel
theorem d_M_keeper_194 : decode c_M_keeper 194 = .ok (.iload_n 1, 1) := by decide +kernel
theorem d_M_keeper_195 : decode c_M_keeper 195 = .ok (.dup2, 1) := by decide +kernel
theorem d_M_keeper_196 : decode c_M_keeper 196 = .ok (.iaload, 1) := by decide +kernel
theorem d_M_keeper_197 : decode c_M_keeper 197 = .ok (.iconst 1, 1) := by decide +kernel
theorem d_M_keeper_198 : decode c_M_keeper 198 = .ok (.iadd, 1) := by decide +kernel
theorem d_M_keeper_199 : decode c_M_keeper 199 = .ok (.iastore, 1) := by decide +kernel
theorem d_M_keeper_200 : decode c_M_keeper 200 = .ok (.aload_n 0, 1) := by decide +kernel
theorem d_M_keeper_201 : decode c_M_keeper 201 = .ok (.getfield 47, 3) := by decide +kernel
theorem d_M_keeper_204 : decode c_M_keeper 204 = .ok (.iload_n 1, 1) := by decide +kernel
theorem d_M_keeper_205 : decode c_M_keeper 205 = .ok (.iaload, 1) := by decide +kernel
theorem d_M_keeper_206 : decode c_M_keeper 206 = .ok (.ireturn, 1) := by decide +kernel
theorem d_M_amount_0 : decode c_M_amount 0 = .ok (.iload_n 0, 1) := by decide +kernel
theorem d_M_amount_1 : decode c_M_amount 1 = .ok (.ifCond .ge 8, 3) := by decide +kernel
theorem d_M_amount_4 : decode c_M_amount 4 = .ok (.iload_n 0, 1) := by decide +kernel
theorem d_M_amount_5 : decode c_M_amount 5 = .ok (.ineg, 1) := by decide +kernel
theorem d_M_amount_6 : decode c_M_amount 6 = .ok (.goto 4, 3) := by decide +kernel
theorem d_M_amount_9 : decode c_M_amount 9 = .ok (.iload_n 0, 1) := by decide +kernel
theorem d_M_amount_10 : decode c_M_amount 10 = .ok (.ireturn, 1) := by decide +kernel
theorem d_M_keeps_0 : decode c_M_keeps 0 = .ok (.bipush 12, 2) := by decide +kernel
theorem d_M_keeps_2 : decode c_M_keeps 2 = .ok (.iload_n 2, 1) := by decide +kernel
theorem d_M_keeps_3 : decode c_M_keeps 3 = .ok (.imul, 1) := by decide +kernel
theorem d_M_keeps_4 : decode c_M_keeps 4 = .ok (.iload_n 3, 1) := by decide +kernel
theorem d_M_keeps_5 : decode c_M_keeps 5 = .ok (.iadd, 1) := by decide +kernel
theorem d_M_keeps_6 : decode c_M_keeps 6 = .ok (.istore 4, 2) := by decide +kernel
theorem d_M_keeps_8 : decode c_M_keeps 8 = .ok (.aload_n 0, 1) := by decide +kernel
theorem d_M_keeps_9 : decode c_M_keeps 9 = .ok (.getfield 53, 3) := by decide +kernel
theorem d_M_keeps_12 : decode c_M_keeps 12 = .ok (.iload_n 1, 1) := by decide +kernel
theorem d_M_keeps_13 : decode c_M_keeps 13 = .ok (.iaload, 1) := by decide +kernel
theorem d_M_keeps_14 : decode c_M_keeps 14 = .ok (.istore 5, 2) := by decide +kernel
theorem d_M_keeps_16 : decode c_M_keeps 16 = .ok (.aload_n 0, 1) := by decide +kernel
theorem d_M_keeps_17 : decode c_M_keeps 17 = .ok (.getfield 50, 3) := by decide +kernel
theorem d_M_keeps_20 : decode c_M_keeps 20 = .ok (.iload_n 1, 1) := by decide +kernel
theorem d_M_keeps_21 : decode c_M_keeps 21 = .ok (.iaload, 1) := by decide +kernel
theorem d_M_keeps_22 : decode c_M_keeps 22 = .ok (.tableswitch 127 0 2 #[26, 39, 102], 26) := by decide +kernel
theorem d_M_keeps_48 : decode c_M_keeps 48 = .ok (.iload_n 3, 1) := by decide +kernel
theorem d_M_keeps_49 : decode c_M_keeps 49 = .ok (.iload 5, 2) := by decide +kernel
theorem d_M_keeps_51 : decode c_M_keeps 51 = .ok (.irem, 1) := by decide +kernel
theorem d_M_keeps_52 : decode c_M_keeps 52 = .ok (.ifCond .ne 7, 3) := by decide +kernel
theorem d_M_keeps_55 : decode c_M_keeps 55 = .ok (.iconst 1, 1) := by decide +kernel
theorem d_M_keeps_56 : decode c_M_keeps 56 = .ok (.goto 4, 3) := by decide +kernel
theorem d_M_keeps_59 : decode c_M_keeps 59 = .ok (.iconst 0, 1) := by decide +kernel
theorem d_M_keeps_60 : decode c_M_keeps 60 = .ok (.ireturn, 1) := by decide +kernel
theorem d_M_keeps_61 : decode c_M_keeps 61 = .ok (.iconst 0, 1) := by decide +kernel
theorem d_M_keeps_62 : decode c_M_keeps 62 = .ok (.istore 6, 2) := by decide +kernel
theorem d_M_keeps_64 : decode c_M_keeps 64 = .ok (.iconst 0, 1) := by decide +kernel
theorem d_M_keeps_65 : decode c_M_keeps 65 = .ok (.istore 7, 2) := by decide +kernel
theorem d_M_keeps_67 : decode c_M_keeps 67 = .ok (.iload 7, 2) := by decide +kernel
theorem d_M_keeps_69 : decode c_M_keeps 69 = .ok (.iload_n 3, 1) := by decide +kernel
theorem d_M_keeps_70 : decode c_M_keeps 70 = .ok (.if_icmp .ge 41, 3) := by decide +kernel
theorem d_M_keeps_73 : decode c_M_keeps 73 = .ok (.iload 6, 2) := by decide +kernel
theorem d_M_keeps_75 : decode c_M_keeps 75 = .ok (.aload_n 0, 1) := by decide +kernel
theorem d_M_keeps_76 : decode c_M_keeps 76 = .ok (.getfield 16, 3) := by decide +kernel
theorem d_M_keeps_79 : decode c_M_keeps 79 = .ok (.bipush 12, 2) := by decide +kernel
theorem d_M_keeps_81 : decode c_M_keeps 81 = .ok (.iload_n 2, 1) := by decide +kernel
theorem d_M_keeps_82 : decode c_M_keeps 82 = .ok (.imul, 1) := by decide +kernel
theorem d_M_keeps_83 : decode c_M_keeps 83 = .ok (.iload 7, 2) := by decide +kernel
theorem d_M_keeps_85 : decode c_M_keeps 85 = .ok (.iadd, 1) := by decide +kernel
theorem d_M_keeps_86 : decode c_M_keeps 86 = .ok (.iaload, 1) := by decide +kernel
theorem d_M_keeps_87 : decode c_M_keeps 87 = .ok (.aload_n 0, 1) := by decide +kernel
theorem d_M_keeps_88 : decode c_M_keeps 88 = .ok (.getfield 16, 3) := by decide +kernel
theorem d_M_keeps_91 : decode c_M_keeps 91 = .ok (.iload 4, 2) := by decide +kernel
theorem d_M_keeps_93 : decode c_M_keeps 93 = .ok (.iaload, 1) := by decide +kernel
theorem d_M_keeps_94 : decode c_M_keeps 94 = .ok (.if_icmp .ne 7, 3) := by decide +kernel
theorem d_M_keeps_97 : decode c_M_keeps 97 = .ok (.iconst 1, 1) := by decide +kernel
theorem d_M_keeps_98 : decode c_M_keeps 98 = .ok (.goto 4, 3) := by decide +kernel
theorem d_M_keeps_101 : decode c_M_keeps 101 = .ok (.iconst 0, 1) := by decide +kernel
theorem d_M_keeps_102 : decode c_M_keeps 102 = .ok (.iadd, 1) := by decide +kernel
theorem d_M_keeps_103 : decode c_M_keeps 103 = .ok (.istore 6, 2) := by decide +kernel
theorem d_M_keeps_105 : decode c_M_keeps 105 = .ok (.iinc 7 1, 3) := by decide +kernel
theorem d_M_keeps_108 : decode c_M_keeps 108 = .ok (.goto (-41), 3) := by decide +kernel
theorem d_M_keeps_111 : decode c_M_keeps 111 = .ok (.iload 6, 2) := by decide +kernel
theorem d_M_keeps_113 : decode c_M_keeps 113 = .ok (.iload 5, 2) := by decide +kernel
theorem d_M_keeps_115 : decode c_M_keeps 115 = .ok (.if_icmp .ge 7, 3) := by decide +kernel
theorem d_M_keeps_118 : decode c_M_keeps 118 = .ok (.iconst 1, 1) := by decide +kernel
theorem d_M_keeps_119 : decode c_M_keeps 119 = .ok (.goto 4, 3) := by decide +kernel
theorem d_M_keeps_122 : decode c_M_keeps 122 = .ok (.iconst 0, 1) := by decide +kernel
theorem d_M_keeps_123 : decode c_M_keeps 123 = .ok (.ireturn, 1) := by decide +kernel
theorem d_M_keeps_124 : decode c_M_keeps 124 = .ok (.aload_n 0, 1) := by decide +kernel
theorem d_M_keeps_125 : decode c_M_keeps 125 = .ok (.getfield 13, 3) := by decide +kernel
theorem d_M_keeps_128 : decode c_M_keeps 128 = .ok (.iload 4, 2) := by decide +kernel
theorem d_M_keeps_130 : decode c_M_keeps 130 = .ok (.iaload, 1) := by decide +kernel
theorem d_M_keeps_131 : decode c_M_keeps 131 = .ok (.iload 5, 2) := by decide +kernel
theorem d_M_keeps_133 : decode c_M_keeps 133 = .ok (.irem, 1) := by decide +kernel
theorem d_M_keeps_134 : decode c_M_keeps 134 = .ok (.aload_n 0, 1) := by decide +kernel
theorem d_M_keeps_135 : decode c_M_keeps 135 = .ok (.getfield 56, 3) := by decide +kernel
theorem d_M_keeps_138 : decode c_M_keeps 138 = .ok (.iload_n 1, 1) := by decide +kernel
theorem d_M_keeps_139 : decode c_M_keeps 139 = .ok (.iaload, 1) := by decide +kernel
theorem d_M_keeps_140 : decode c_M_keeps 140 = .ok (.if_icmp .ne 7, 3) := by decide +kernel
theorem d_M_keeps_143 : decode c_M_keeps 143 = .ok (.iconst 1, 1) := by decide +kernel
theorem d_M_keeps_144 : decode c_M_keeps 144 = .ok (.goto 4, 3) := by decide +kernel
theorem d_M_keeps_147 : decode c_M_keeps 147 = .ok (.iconst 0, 1) := by decide +kernel
theorem d_M_keeps_148 : decode c_M_keeps 148 = .ok (.ireturn, 1) := by decide +kernel
theorem d_M_keeps_149 : decode c_M_keeps 149 = .ok (.aload_n 0, 1) := by decide +kernel
theorem d_M_keeps_150 : decode c_M_keeps 150 = .ok (.getfield 19, 3) := by decide +kernel
theorem d_M_keeps_153 : decode c_M_keeps 153 = .ok (.iload 4, 2) := by decide +kernel
theorem d_M_keeps_155 : decode c_M_keeps 155 = .ok (.iaload, 1) := by decide +kernel
theorem d_M_keeps_156 : decode c_M_keeps 156 = .ok (.invokestatic 100, 3) := by decide +kernel
theorem d_M_keeps_159 : decode c_M_keeps 159 = .ok (.iload 5, 2) := by decide +kernel
theorem d_M_keeps_161 : decode c_M_keeps 161 = .ok (.if_icmp .lt 7, 3) := by decide +kernel
theorem d_M_keeps_164 : decode c_M_keeps 164 = .ok (.iconst 1, 1) := by decide +kernel
theorem d_M_keeps_165 : decode c_M_keeps 165 = .ok (.goto 4, 3) := by decide +kernel
theorem d_M_keeps_168 : decode c_M_keeps 168 = .ok (.iconst 0, 1) := by decide +kernel
theorem d_M_keeps_169 : decode c_M_keeps 169 = .ok (.ireturn, 1) := by decide +kernel
theorem d_M_seals_0 : decode c_M_seals 0 = .ok (.bipush 8, 2) := by decide +kernel
theorem d_M_seals_2 : decode c_M_seals 2 = .ok (.iload_n 1, 1) := by decide +kernel
theorem d_M_seals_3 : decode c_M_seals 3 = .ok (.imul, 1) := by decide +kernel
theorem d_M_seals_4 : decode c_M_seals 4 = .ok (.iload_n 2, 1) := by decide +kernel
theorem d_M_seals_5 : decode c_M_seals 5 = .ok (.iadd, 1) := by decide +kernel
theorem d_M_seals_6 : decode c_M_seals 6 = .ok (.istore_n 3, 1) := by decide +kernel
theorem d_M_seals_7 : decode c_M_seals 7 = .ok (.aload_n 0, 1) := by decide +kernel
theorem d_M_seals_8 : decode c_M_seals 8 = .ok (.getfield 41, 3) := by decide +kernel
theorem d_M_seals_11 : decode c_M_seals 11 = .ok (.iload_n 3, 1) := by decide +kernel
theorem d_M_seals_12 : decode c_M_seals 12 = .ok (.iconst 0, 1) := by decide +kernel
theorem d_M_seals_13 : decode c_M_seals 13 = .ok (.bastore, 1) := by decide +kernel
theorem d_M_seals_14 : decode c_M_seals 14 = .ok (.aload_n 0, 1) := by decide +kernel
theorem d_M_seals_15 : decode c_M_seals 15 = .ok (.getfield 32, 3) := by decide +kernel
theorem d_M_seals_18 : decode c_M_seals 18 = .ok (.iload_n 3, 1) := by decide +kernel
theorem d_M_seals_19 : decode c_M_seals 19 = .ok (.iconst 0, 1) := by decide +kernel
theorem d_M_seals_20 : decode c_M_seals 20 = .ok (.iastore, 1) := by decide +kernel
theorem d_M_seals_21 : decode c_M_seals 21 = .ok (.aload_n 0, 1) := by decide +kernel
theorem d_M_seals_22 : decode c_M_seals 22 = .ok (.getfield 35, 3) := by decide +kernel
theorem d_M_seals_25 : decode c_M_seals 25 = .ok (.iload_n 3, 1) := by decide +kernel
theorem d_M_seals_26 : decode c_M_seals 26 = .ok (.iconst 0, 1) := by decide +kernel
theorem d_M_seals_27 : decode c_M_seals 27 = .ok (.iastore, 1) := by decide +kernel
theorem d_M_seals_28 : decode c_M_seals 28 = .ok (.iconst 0, 1) := by decide +kernel
theorem d_M_seals_29 : decode c_M_seals 29 = .ok (.istore 4, 2) := by decide +kernel
theorem d_M_seals_31 : decode c_M_seals 31 = .ok (.iload 4, 2) := by decide +kernel
theorem d_M_seals_33 : decode c_M_seals 33 = .ok (.iconst 4, 1) := by decide +kernel
theorem d_M_seals_34 : decode c_M_seals 34 = .ok (.if_icmp .ge 21, 3) := by decide +kernel
theorem d_M_seals_37 : decode c_M_seals 37 = .ok (.aload_n 0, 1) := by decide +kernel
theorem d_M_seals_38 : decode c_M_seals 38 = .ok (.getfield 38, 3) := by decide +kernel
theorem d_M_seals_41 : decode c_M_seals 41 = .ok (.iconst 4, 1) := by decide +kernel
theorem d_M_seals_42 : decode c_M_seals 42 = .ok (.iload_n 3, 1) := by decide +kernel
theorem d_M_seals_43 : decode c_M_seals 43 = .ok (.imul, 1) := by decide +kernel
theorem d_M_seals_44 : decode c_M_seals 44 = .ok (.iload 4, 2) := by decide +kernel
theorem d_M_seals_46 : decode c_M_seals 46 = .ok (.iadd, 1) := by decide +kernel
theorem d_M_seals_47 : decode c_M_seals 47 = .ok (.iconst 0, 1) := by decide +kernel
theorem d_M_seals_48 : decode c_M_seals 48 = .ok (.iastore, 1) := by decide +kernel
theorem d_M_seals_49 : decode c_M_seals 49 = .ok (.iinc 4 1, 3) := by decide +kernel
theorem d_M_seals_52 : decode c_M_seals 52 = .ok (.goto (-21), 3) := by decide +kernel
theorem d_M_seals_55 : decode c_M_seals 55 = .ok (.iconst 0, 1) := by decide +kernel
theorem d_M_seals_56 : decode c_M_seals 56 = .ok (.istore 4, 2) := by decide +kernel
theorem d_M_seals_58 : decode c_M_seals 58 = .ok (.iload 4, 2) := by decide +kernel
theorem d_M_seals_60 : decode c_M_seals 60 = .ok (.aload_n 0, 1) := by decide +kernel
theorem d_M_seals_61 : decode c_M_seals 61 = .ok (.getfield 7, 3) := by decide +kernel
theorem d_M_seals_64 : decode c_M_seals 64 = .ok (.iload_n 3, 1) := by decide +kernel
theorem d_M_seals_65 : decode c_M_seals 65 = .ok (.iaload, 1) := by decide +kernel
theorem d_M_seals_66 : decode c_M_seals 66 = .ok (.if_icmp .ge 203, 3) := by decide +kernel
theorem d_M_seals_69 : decode c_M_seals 69 = .ok (.bipush 12, 2) := by decide +kernel
theorem d_M_seals_71 : decode c_M_seals 71 = .ok (.iload_n 3, 1) := by decide +kernel
theorem d_M_seals_72 : decode c_M_seals 72 = .ok (.imul, 1) := by decide +kernel
theorem d_M_seals_73 : decode c_M_seals 73 = .ok (.iload 4, 2) := by decide +kernel
theorem d_M_seals_75 : decode c_M_seals 75 = .ok (.iadd, 1) := by decide +kernel
theorem d_M_seals_76 : decode c_M_seals 76 = .ok (.istore 5, 2) := by decide +kernel
theorem d_M_seals_78 : decode c_M_seals 78 = .ok (.aload_n 0, 1) := by decide +kernel
theorem d_M_seals_79 : decode c_M_seals 79 = .ok (.getfield 32, 3) := by decide +kernel
theorem d_M_seals_82 : decode c_M_seals 82 = .ok (.iload_n 3, 1) := by decide +kernel
theorem d_M_seals_83 : decode c_M_seals 83 = .ok (.iload 4, 2) := by decide +kernel
theorem d_M_seals_85 : decode c_M_seals 85 = .ok (.ifCond .eq 19, 3) := by decide +kernel
end
section
theorem d_M_seals_88 : decode c_M_seals 88 = .ok (.aload_n 0, 1) := by decide +kernel
theorem d_M_seals_89 : decode c_M_seals 89 = .ok (.getfield 19, 3) := by decide +kernel
theorem d_M_seals_92 : decode c_M_seals 92 = .ok (.iload 5, 2) := by decide +kernel
theorem d_M_seals_94 : decode c_M_seals 94 = .ok (.iaload, 1) := by decide +kernel
theorem d_M_seals_95 : decode c_M_seals 95 = .ok (.aload_n 0, 1) := by decide +kernel
theorem d_M_seals_96 : decode c_M_seals 96 = .ok (.getfield 32, 3) := by decide +kernel
theorem d_M_seals_99 : decode c_M_seals 99 = .ok (.iload_n 3, 1) := by decide +kernel
theorem d_M_seals_100 : decode c_M_seals 100 = .ok (.iaload, 1) := by decide +kernel
theorem d_M_seals_101 : decode c_M_seals 101 = .ok (.if_icmp .ge 13, 3) := by decide +kernel
theorem d_M_seals_104 : decode c_M_seals 104 = .ok (.aload_n 0, 1) := by decide +kernel
theorem d_M_seals_105 : decode c_M_seals 105 = .ok (.getfield 19, 3) := by decide +kernel
theorem d_M_seals_108 : decode c_M_seals 108 = .ok (.iload 5, 2) := by decide +kernel
theorem d_M_seals_110 : decode c_M_seals 110 = .ok (.iaload, 1) := by decide +kernel
theorem d_M_seals_111 : decode c_M_seals 111 = .ok (.goto 9, 3) := by decide +kernel
theorem d_M_seals_114 : decode c_M_seals 114 = .ok (.aload_n 0, 1) := by decide +kernel
theorem d_M_seals_115 : decode c_M_seals 115 = .ok (.getfield 32, 3) := by decide +kernel
theorem d_M_seals_118 : decode c_M_seals 118 = .ok (.iload_n 3, 1) := by decide +kernel
theorem d_M_seals_119 : decode c_M_seals 119 = .ok (.iaload, 1) := by decide +kernel
theorem d_M_seals_120 : decode c_M_seals 120 = .ok (.iastore, 1) := by decide +kernel
theorem d_M_seals_121 : decode c_M_seals 121 = .ok (.aload_n 0, 1) := by decide +kernel
theorem d_M_seals_122 : decode c_M_seals 122 = .ok (.getfield 35, 3) := by decide +kernel
theorem d_M_seals_125 : decode c_M_seals 125 = .ok (.iload_n 3, 1) := by decide +kernel
theorem d_M_seals_126 : decode c_M_seals 126 = .ok (.iload 4, 2) := by decide +kernel
theorem d_M_seals_128 : decode c_M_seals 128 = .ok (.ifCond .eq 19, 3) := by decide +kernel
theorem d_M_seals_131 : decode c_M_seals 131 = .ok (.aload_n 0, 1) := by decide +kernel
theorem d_M_seals_132 : decode c_M_seals 132 = .ok (.getfield 19, 3) := by decide +kernel
theorem d_M_seals_135 : decode c_M_seals 135 = .ok (.iload 5, 2) := by decide +kernel
theorem d_M_seals_137 : decode c_M_seals 137 = .ok (.iaload, 1) := by decide +kernel
theorem d_M_seals_138 : decode c_M_seals 138 = .ok (.aload_n 0, 1) := by decide +kernel
theorem d_M_seals_139 : decode c_M_seals 139 = .ok (.getfield 35, 3) := by decide +kernel
theorem d_M_seals_142 : decode c_M_seals 142 = .ok (.iload_n 3, 1) := by decide +kernel
theorem d_M_seals_143 : decode c_M_seals 143 = .ok (.iaload, 1) := by decide +kernel
theorem d_M_seals_144 : decode c_M_seals 144 = .ok (.if_icmp .le 13, 3) := by decide +kernel
theorem d_M_seals_147 : decode c_M_seals 147 = .ok (.aload_n 0, 1) := by decide +kernel
theorem d_M_seals_148 : decode c_M_seals 148 = .ok (.getfield 19, 3) := by decide +kernel
theorem d_M_seals_151 : decode c_M_seals 151 = .ok (.iload 5, 2) := by decide +kernel
theorem d_M_seals_153 : decode c_M_seals 153 = .ok (.iaload, 1) := by decide +kernel
theorem d_M_seals_154 : decode c_M_seals 154 = .ok (.goto 9, 3) := by decide +kernel
theorem d_M_seals_157 : decode c_M_seals 157 = .ok (.aload_n 0, 1) := by decide +kernel
theorem d_M_seals_158 : decode c_M_seals 158 = .ok (.getfield 35, 3) := by decide +kernel
theorem d_M_seals_161 : decode c_M_seals 161 = .ok (.iload_n 3, 1) := by decide +kernel
theorem d_M_seals_162 : decode c_M_seals 162 = .ok (.iaload, 1) := by decide +kernel
theorem d_M_seals_163 : decode c_M_seals 163 = .ok (.iastore, 1) := by decide +kernel
theorem d_M_seals_164 : decode c_M_seals 164 = .ok (.aload_n 0, 1) := by decide +kernel
theorem d_M_seals_165 : decode c_M_seals 165 = .ok (.getfield 38, 3) := by decide +kernel
theorem d_M_seals_168 : decode c_M_seals 168 = .ok (.iconst 4, 1) := by decide +kernel
theorem d_M_seals_169 : decode c_M_seals 169 = .ok (.iload_n 3, 1) := by decide +kernel
theorem d_M_seals_170 : decode c_M_seals 170 = .ok (.imul, 1) := by decide +kernel
theorem d_M_seals_171 : decode c_M_seals 171 = .ok (.aload_n 0, 1) := by decide +kernel
theorem d_M_seals_172 : decode c_M_seals 172 = .ok (.getfield 16, 3) := by decide +kernel
theorem d_M_seals_175 : decode c_M_seals 175 = .ok (.iload 5, 2) := by decide +kernel
theorem d_M_seals_177 : decode c_M_seals 177 = .ok (.iaload, 1) := by decide +kernel
theorem d_M_seals_178 : decode c_M_seals 178 = .ok (.iadd, 1) := by decide +kernel
theorem d_M_seals_179 : decode c_M_seals 179 = .ok (.dup2, 1) := by decide +kernel
theorem d_M_seals_180 : decode c_M_seals 180 = .ok (.iaload, 1) := by decide +kernel
theorem d_M_seals_181 : decode c_M_seals 181 = .ok (.iconst 1, 1) := by decide +kernel
theorem d_M_seals_182 : decode c_M_seals 182 = .ok (.iadd, 1) := by decide +kernel
theorem d_M_seals_183 : decode c_M_seals 183 = .ok (.iastore, 1) := by decide +kernel
theorem d_M_seals_184 : decode c_M_seals 184 = .ok (.aload_n 0, 1) := by decide +kernel
theorem d_M_seals_185 : decode c_M_seals 185 = .ok (.getfield 22, 3) := by decide +kernel
theorem d_M_seals_188 : decode c_M_seals 188 = .ok (.iload 5, 2) := by decide +kernel
theorem d_M_seals_190 : decode c_M_seals 190 = .ok (.iconst 0, 1) := by decide +kernel
theorem d_M_seals_191 : decode c_M_seals 191 = .ok (.bastore, 1) := by decide +kernel
theorem d_M_seals_192 : decode c_M_seals 192 = .ok (.iconst 0, 1) := by decide +kernel
theorem d_M_seals_193 : decode c_M_seals 193 = .ok (.istore 6, 2) := by decide +kernel
theorem d_M_seals_195 : decode c_M_seals 195 = .ok (.iload 6, 2) := by decide +kernel
theorem d_M_seals_197 : decode c_M_seals 197 = .ok (.aload_n 0, 1) := by decide +kernel
theorem d_M_seals_198 : decode c_M_seals 198 = .ok (.getfield 47, 3) := by decide +kernel
theorem d_M_seals_201 : decode c_M_seals 201 = .ok (.iload_n 1, 1) := by decide +kernel
theorem d_M_seals_202 : decode c_M_seals 202 = .ok (.iaload, 1) := by decide +kernel
theorem d_M_seals_203 : decode c_M_seals 203 = .ok (.if_icmp .ge 32, 3) := by decide +kernel
theorem d_M_seals_206 : decode c_M_seals 206 = .ok (.aload_n 0, 1) := by decide +kernel
theorem d_M_seals_207 : decode c_M_seals 207 = .ok (.getfield 22, 3) := by decide +kernel
theorem d_M_seals_210 : decode c_M_seals 210 = .ok (.iload 5, 2) := by decide +kernel
theorem d_M_seals_212 : decode c_M_seals 212 = .ok (.dup2, 1) := by decide +kernel
theorem d_M_seals_213 : decode c_M_seals 213 = .ok (.baload, 1) := by decide +kernel
theorem d_M_seals_214 : decode c_M_seals 214 = .ok (.aload_n 0, 1) := by decide +kernel
theorem d_M_seals_215 : decode c_M_seals 215 = .ok (.iconst 4, 1) := by decide +kernel
theorem d_M_seals_216 : decode c_M_seals 216 = .ok (.iload_n 1, 1) := by decide +kernel
theorem d_M_seals_217 : decode c_M_seals 217 = .ok (.imul, 1) := by decide +kernel
theorem d_M_seals_218 : decode c_M_seals 218 = .ok (.iload 6, 2) := by decide +kernel
theorem d_M_seals_220 : decode c_M_seals 220 = .ok (.iadd, 1) := by decide +kernel
theorem d_M_seals_221 : decode c_M_seals 221 = .ok (.iload_n 3, 1) := by decide +kernel
theorem d_M_seals_222 : decode c_M_seals 222 = .ok (.iload 4, 2) := by decide +kernel
theorem d_M_seals_224 : decode c_M_seals 224 = .ok (.invokevirtual 103, 3) := by decide +kernel
theorem d_M_seals_227 : decode c_M_seals 227 = .ok (.ior, 1) := by decide +kernel
theorem d_M_seals_228 : decode c_M_seals 228 = .ok (.bastore, 1) := by decide +kernel
theorem d_M_seals_229 : decode c_M_seals 229 = .ok (.iinc 6 1, 3) := by decide +kernel
theorem d_M_seals_232 : decode c_M_seals 232 = .ok (.goto (-37), 3) := by decide +kernel
theorem d_M_seals_235 : decode c_M_seals 235 = .ok (.aload_n 0, 1) := by decide +kernel
theorem d_M_seals_236 : decode c_M_seals 236 = .ok (.getfield 26, 3) := by decide +kernel
theorem d_M_seals_239 : decode c_M_seals 239 = .ok (.iload 5, 2) := by decide +kernel
theorem d_M_seals_241 : decode c_M_seals 241 = .ok (.aload_n 0, 1) := by decide +kernel
theorem d_M_seals_242 : decode c_M_seals 242 = .ok (.getfield 22, 3) := by decide +kernel
theorem d_M_seals_245 : decode c_M_seals 245 = .ok (.iload 5, 2) := by decide +kernel
theorem d_M_seals_247 : decode c_M_seals 247 = .ok (.baload, 1) := by decide +kernel
theorem d_M_seals_248 : decode c_M_seals 248 = .ok (.bastore, 1) := by decide +kernel
theorem d_M_seals_249 : decode c_M_seals 249 = .ok (.aload_n 0, 1) := by decide +kernel
theorem d_M_seals_250 : decode c_M_seals 250 = .ok (.getfield 29, 3) := by decide +kernel
theorem d_M_seals_253 : decode c_M_seals 253 = .ok (.iload 5, 2) := by decide +kernel
theorem d_M_seals_255 : decode c_M_seals 255 = .ok (.aload_n 0, 1) := by decide +kernel
theorem d_M_seals_256 : decode c_M_seals 256 = .ok (.getfield 19, 3) := by decide +kernel
theorem d_M_seals_259 : decode c_M_seals 259 = .ok (.iload 5, 2) := by decide +kernel
theorem d_M_seals_261 : decode c_M_seals 261 = .ok (.iaload, 1) := by decide +kernel
theorem d_M_seals_262 : decode c_M_seals 262 = .ok (.iastore, 1) := by decide +kernel
theorem d_M_seals_263 : decode c_M_seals 263 = .ok (.iinc 4 1, 3) := by decide +kernel
theorem d_M_seals_266 : decode c_M_seals 266 = .ok (.goto (-208), 3) := by decide +kernel
theorem d_M_seals_269 : decode c_M_seals 269 = .ok (.return_, 1) := by decide +kernel
theorem d_M_seal_0 : decode c_M_seal 0 = .ok (.iload_n 1, 1) := by decide +kernel
theorem d_M_seal_1 : decode c_M_seal 1 = .ok (.invokestatic 78, 3) := by decide +kernel
theorem d_M_seal_4 : decode c_M_seal 4 = .ok (.ifCond .ne 6, 3) := by decide +kernel
theorem d_M_seal_7 : decode c_M_seal 7 = .ok (.bipush (-2), 2) := by decide +kernel
theorem d_M_seal_9 : decode c_M_seal 9 = .ok (.ireturn, 1) := by decide +kernel
theorem d_M_seal_10 : decode c_M_seal 10 = .ok (.aload_n 0, 1) := by decide +kernel
theorem d_M_seal_11 : decode c_M_seal 11 = .ok (.getfield 44, 3) := by decide +kernel
theorem d_M_seal_14 : decode c_M_seal 14 = .ok (.iload_n 1, 1) := by decide +kernel
theorem d_M_seal_15 : decode c_M_seal 15 = .ok (.baload, 1) := by decide +kernel
theorem d_M_seal_16 : decode c_M_seal 16 = .ok (.ifCond .eq 6, 3) := by decide +kernel
theorem d_M_seal_19 : decode c_M_seal 19 = .ok (.bipush (-3), 2) := by decide +kernel
theorem d_M_seal_21 : decode c_M_seal 21 = .ok (.ireturn, 1) := by decide +kernel
theorem d_M_seal_22 : decode c_M_seal 22 = .ok (.aload_n 0, 1) := by decide +kernel
theorem d_M_seal_23 : decode c_M_seal 23 = .ok (.getfield 44, 3) := by decide +kernel
theorem d_M_seal_26 : decode c_M_seal 26 = .ok (.iload_n 1, 1) := by decide +kernel
theorem d_M_seal_27 : decode c_M_seal 27 = .ok (.iconst 1, 1) := by decide +kernel
theorem d_M_seal_28 : decode c_M_seal 28 = .ok (.bastore, 1) := by decide +kernel
theorem d_M_seal_29 : decode c_M_seal 29 = .ok (.iconst 0, 1) := by decide +kernel
theorem d_M_seal_30 : decode c_M_seal 30 = .ok (.istore_n 2, 1) := by decide +kernel
theorem d_M_seal_31 : decode c_M_seal 31 = .ok (.iload_n 2, 1) := by decide +kernel
theorem d_M_seal_32 : decode c_M_seal 32 = .ok (.bipush 8, 2) := by decide +kernel
theorem d_M_seal_34 : decode c_M_seal 34 = .ok (.if_icmp .ge 15, 3) := by decide +kernel
theorem d_M_seal_37 : decode c_M_seal 37 = .ok (.aload_n 0, 1) := by decide +kernel
theorem d_M_seal_38 : decode c_M_seal 38 = .ok (.iload_n 1, 1) := by decide +kernel
theorem d_M_seal_39 : decode c_M_seal 39 = .ok (.iload_n 2, 1) := by decide +kernel
theorem d_M_seal_40 : decode c_M_seal 40 = .ok (.invokevirtual 106, 3) := by decide +kernel
theorem d_M_seal_43 : decode c_M_seal 43 = .ok (.iinc 2 1, 3) := by decide +kernel
theorem d_M_seal_46 : decode c_M_seal 46 = .ok (.goto (-15), 3) := by decide +kernel
theorem d_M_seal_49 : decode c_M_seal 49 = .ok (.aload_n 0, 1) := by decide +kernel
theorem d_M_seal_50 : decode c_M_seal 50 = .ok (.iload_n 1, 1) := by decide +kernel
theorem d_M_seal_51 : decode c_M_seal 51 = .ok (.invokevirtual 110, 3) := by decide +kernel
theorem d_M_seal_54 : decode c_M_seal 54 = .ok (.ireturn, 1) := by decide +kernel
theorem d_M_unknownOf_0 : decode c_M_unknownOf 0 = .ok (.iconst 0, 1) := by decide +kernel
theorem d_M_unknownOf_1 : decode c_M_unknownOf 1 = .ok (.istore_n 2, 1) := by decide +kernel
theorem d_M_unknownOf_2 : decode c_M_unknownOf 2 = .ok (.iconst 0, 1) := by decide +kernel
theorem d_M_unknownOf_3 : decode c_M_unknownOf 3 = .ok (.istore_n 3, 1) := by decide +kernel
theorem d_M_unknownOf_4 : decode c_M_unknownOf 4 = .ok (.iload_n 3, 1) := by decide +kernel
theorem d_M_unknownOf_5 : decode c_M_unknownOf 5 = .ok (.aload_n 0, 1) := by decide +kernel
theorem d_M_unknownOf_6 : decode c_M_unknownOf 6 = .ok (.getfield 7, 3) := by decide +kernel
theorem d_M_unknownOf_9 : decode c_M_unknownOf 9 = .ok (.iload_n 1, 1) := by decide +kernel
theorem d_M_unknownOf_10 : decode c_M_unknownOf 10 = .ok (.iaload, 1) := by decide +kernel
theorem d_M_unknownOf_11 : decode c_M_unknownOf 11 = .ok (.if_icmp .ge 31, 3) := by decide +kernel
theorem d_M_unknownOf_14 : decode c_M_unknownOf 14 = .ok (.iload_n 2, 1) := by decide +kernel
theorem d_M_unknownOf_15 : decode c_M_unknownOf 15 = .ok (.aload_n 0, 1) := by decide +kernel
theorem d_M_unknownOf_16 : decode c_M_unknownOf 16 = .ok (.getfield 22, 3) := by decide +kernel
theorem d_M_unknownOf_19 : decode c_M_unknownOf 19 = .ok (.bipush 12, 2) := by decide +kernel
theorem d_M_unknownOf_21 : decode c_M_unknownOf 21 = .ok (.iload_n 1, 1) := by decide +kernel
theorem d_M_unknownOf_22 : decode c_M_unknownOf 22 = .ok (.imul, 1) := by decide +kernel
theorem d_M_unknownOf_23 : decode c_M_unknownOf 23 = .ok (.iload_n 3, 1) := by decide +kernel
theorem d_M_unknownOf_24 : decode c_M_unknownOf 24 = .ok (.iadd, 1) := by decide +kernel
theorem d_M_unknownOf_25 : decode c_M_unknownOf 25 = .ok (.baload, 1) := by decide +kernel
theorem d_M_unknownOf_26 : decode c_M_unknownOf 26 = .ok (.ifCond .eq 7, 3) := by decide +kernel
theorem d_M_unknownOf_29 : decode c_M_unknownOf 29 = .ok (.iconst 0, 1) := by decide +kernel
theorem d_M_unknownOf_30 : decode c_M_unknownOf 30 = .ok (.goto 4, 3) := by decide +kernel
theorem d_M_unknownOf_33 : decode c_M_unknownOf 33 = .ok (.iconst 1, 1) := by decide +kernel
theorem d_M_unknownOf_34 : decode c_M_unknownOf 34 = .ok (.iadd, 1) := by decide +kernel
theorem d_M_unknownOf_35 : decode c_M_unknownOf 35 = .ok (.istore_n 2, 1) := by decide +kernel
theorem d_M_unknownOf_36 : decode c_M_unknownOf 36 = .ok (.iinc 3 1, 3) := by decide +kernel
theorem d_M_unknownOf_39 : decode c_M_unknownOf 39 = .ok (.goto (-35), 3) := by decide +kernel
theorem d_M_unknownOf_42 : decode c_M_unknownOf 42 = .ok (.iload_n 2, 1) := by decide +kernel
theorem d_M_unknownOf_43 : decode c_M_unknownOf 43 = .ok (.ireturn, 1) := by decide +kernel
theorem d_M_rowsOf_0 : decode c_M_rowsOf 0 = .ok (.iconst 0, 1) := by decide +kernel
theorem d_M_rowsOf_1 : decode c_M_rowsOf 1 = .ok (.istore_n 2, 1) := by decide +kernel
theorem d_M_rowsOf_2 : decode c_M_rowsOf 2 = .ok (.iconst 0, 1) := by decide +kernel
theorem d_M_rowsOf_3 : decode c_M_rowsOf 3 = .ok (.istore_n 3, 1) := by decide +kernel
theorem d_M_rowsOf_4 : decode c_M_rowsOf 4 = .ok (.iload_n 3, 1) := by decide +kernel
theorem d_M_rowsOf_5 : decode c_M_rowsOf 5 = .ok (.bipush 8, 2) := by decide +kernel
theorem d_M_rowsOf_7 : decode c_M_rowsOf 7 = .ok (.if_icmp .ge 23, 3) := by decide +kernel
theorem d_M_rowsOf_10 : decode c_M_rowsOf 10 = .ok (.iload_n 2, 1) := by decide +kernel
theorem d_M_rowsOf_11 : decode c_M_rowsOf 11 = .ok (.aload_n 0, 1) := by decide +kernel
theorem d_M_rowsOf_12 : decode c_M_rowsOf 12 = .ok (.getfield 7, 3) := by decide +kernel
theorem d_M_rowsOf_15 : decode c_M_rowsOf 15 = .ok (.bipush 8, 2) := by decide +kernel
theorem d_M_rowsOf_17 : decode c_M_rowsOf 17 = .ok (.iload_n 1, 1) := by decide +kernel
theorem d_M_rowsOf_18 : decode c_M_rowsOf 18 = .ok (.imul, 1) := by decide +kernel
theorem d_M_rowsOf_19 : decode c_M_rowsOf 19 = .ok (.iload_n 3, 1) := by decide +kernel
theorem d_M_rowsOf_20 : decode c_M_rowsOf 20 = .ok (.iadd, 1) := by decide +kernel
theorem d_M_rowsOf_21 : decode c_M_rowsOf 21 = .ok (.iaload, 1) := by decide +kernel
theorem d_M_rowsOf_22 : decode c_M_rowsOf 22 = .ok (.iadd, 1) := by decide +kernel
theorem d_M_rowsOf_23 : decode c_M_rowsOf 23 = .ok (.istore_n 2, 1) := by decide +kernel
theorem d_M_rowsOf_24 : decode c_M_rowsOf 24 = .ok (.iinc 3 1, 3) := by decide +kernel
theorem d_M_rowsOf_27 : decode c_M_rowsOf 27 = .ok (.goto (-23), 3) := by decide +kernel
theorem d_M_rowsOf_30 : decode c_M_rowsOf 30 = .ok (.iload_n 2, 1) := by decide +kernel
theorem d_M_rowsOf_31 : decode c_M_rowsOf 31 = .ok (.ireturn, 1) := by decide +kernel
theorem d_M_knownOf_0 : decode c_M_knownOf 0 = .ok (.aload_n 0, 1) := by decide +kernel
theorem d_M_knownOf_1 : decode c_M_knownOf 1 = .ok (.iload_n 1, 1) := by decide +kernel
theorem d_M_knownOf_2 : decode c_M_knownOf 2 = .ok (.invokevirtual 113, 3) := by decide +kernel
theorem d_M_knownOf_5 : decode c_M_knownOf 5 = .ok (.istore_n 2, 1) := by decide +kernel
theorem d_M_knownOf_6 : decode c_M_knownOf 6 = .ok (.iconst 0, 1) := by decide +kernel
theorem d_M_knownOf_7 : decode c_M_knownOf 7 = .ok (.istore_n 3, 1) := by decide +kernel
theorem d_M_knownOf_8 : decode c_M_knownOf 8 = .ok (.iload_n 3, 1) := by decide +kernel
theorem d_M_knownOf_9 : decode c_M_knownOf 9 = .ok (.bipush 8, 2) := by decide +kernel
theorem d_M_knownOf_11 : decode c_M_knownOf 11 = .ok (.if_icmp .ge 22, 3) := by decide +kernel
theorem d_M_knownOf_14 : decode c_M_knownOf 14 = .ok (.iload_n 2, 1) := by decide +kernel
theorem d_M_knownOf_15 : decode c_M_knownOf 15 = .ok (.aload_n 0, 1) := by decide +kernel
theorem d_M_knownOf_16 : decode c_M_knownOf 16 = .ok (.bipush 8, 2) := by decide +kernel
theorem d_M_knownOf_18 : decode c_M_knownOf 18 = .ok (.iload_n 1, 1) := by decide +kernel
theorem d_M_knownOf_19 : decode c_M_knownOf 19 = .ok (.imul, 1) := by decide +kernel
theorem d_M_knownOf_20 : decode c_M_knownOf 20 = .ok (.iload_n 3, 1) := by decide +kernel
theorem d_M_knownOf_21 : decode c_M_knownOf 21 = .ok (.iadd, 1) := by decide +kernel
theorem d_M_knownOf_22 : decode c_M_knownOf 22 = .ok (.invokevirtual 116, 3) := by decide +kernel
theorem d_M_knownOf_25 : decode c_M_knownOf 25 = .ok (.isub, 1) := by decide +kernel
theorem d_M_knownOf_26 : decode c_M_knownOf 26 = .ok (.istore_n 2, 1) := by decide +kernel
theorem d_M_knownOf_27 : decode c_M_knownOf 27 = .ok (.iinc 3 1, 3) := by decide +kernel
theorem d_M_knownOf_30 : decode c_M_knownOf 30 = .ok (.goto (-22), 3) := by decide +kernel
theorem d_M_knownOf_33 : decode c_M_knownOf 33 = .ok (.iload_n 2, 1) := by decide +kernel
theorem d_M_knownOf_34 : decode c_M_knownOf 34 = .ok (.ireturn, 1) := by decide +kernel
theorem d_M_clear_0 : decode c_M_clear 0 = .ok (.iload_n 1, 1) := by decide +kernel
theorem d_M_clear_1 : decode c_M_clear 1 = .ok (.invokestatic 78, 3) := by decide +kernel
theorem d_M_clear_4 : decode c_M_clear 4 = .ok (.ifCond .ne 6, 3) := by decide +kernel
theorem d_M_clear_7 : decode c_M_clear 7 = .ok (.bipush (-2), 2) := by decide +kernel
theorem d_M_clear_9 : decode c_M_clear 9 = .ok (.ireturn, 1) := by decide +kernel
theorem d_M_clear_10 : decode c_M_clear 10 = .ok (.aload_n 0, 1) := by decide +kernel
theorem d_M_clear_11 : decode c_M_clear 11 = .ok (.iload_n 1, 1) := by decide +kernel
theorem d_M_clear_12 : decode c_M_clear 12 = .ok (.invokevirtual 113, 3) := by decide +kernel
theorem d_M_clear_15 : decode c_M_clear 15 = .ok (.istore_n 2, 1) := by decide +kernel
theorem d_M_clear_16 : decode c_M_clear 16 = .ok (.iconst 0, 1) := by decide +kernel
theorem d_M_clear_17 : decode c_M_clear 17 = .ok (.istore_n 3, 1) := by decide +kernel
theorem d_M_clear_18 : decode c_M_clear 18 = .ok (.iload_n 3, 1) := by decide +kernel
theorem d_M_clear_19 : decode c_M_clear 19 = .ok (.bipush 8, 2) := by decide +kernel
theorem d_M_clear_21 : decode c_M_clear 21 = .ok (.if_icmp .ge 21, 3) := by decide +kernel
theorem d_M_clear_24 : decode c_M_clear 24 = .ok (.aload_n 0, 1) := by decide +kernel
theorem d_M_clear_25 : decode c_M_clear 25 = .ok (.getfield 7, 3) := by decide +kernel
theorem d_M_clear_28 : decode c_M_clear 28 = .ok (.bipush 8, 2) := by decide +kernel
theorem d_M_clear_30 : decode c_M_clear 30 = .ok (.iload_n 1, 1) := by decide +kernel
theorem d_M_clear_31 : decode c_M_clear 31 = .ok (.imul, 1) := by decide +kernel
theorem d_M_clear_32 : decode c_M_clear 32 = .ok (.iload_n 3, 1) := by decide +kernel
theorem d_M_clear_33 : decode c_M_clear 33 = .ok (.iadd, 1) := by decide +kernel
theorem d_M_clear_34 : decode c_M_clear 34 = .ok (.iconst 0, 1) := by decide +kernel
theorem d_M_clear_35 : decode c_M_clear 35 = .ok (.iastore, 1) := by decide +kernel
theorem d_M_clear_36 : decode c_M_clear 36 = .ok (.iinc 3 1, 3) := by decide +kernel
theorem d_M_clear_39 : decode c_M_clear 39 = .ok (.goto (-21), 3) := by decide +kernel
theorem d_M_clear_42 : decode c_M_clear 42 = .ok (.aload_n 0, 1) := by decide +kernel
theorem d_M_clear_43 : decode c_M_clear 43 = .ok (.getfield 47, 3) := by decide +kernel
theorem d_M_clear_46 : decode c_M_clear 46 = .ok (.iload_n 1, 1) := by decide +kernel
theorem d_M_clear_47 : decode c_M_clear 47 = .ok (.iconst 0, 1) := by decide +kernel
theorem d_M_clear_48 : decode c_M_clear 48 = .ok (.iastore, 1) := by decide +kernel
theorem d_M_clear_49 : decode c_M_clear 49 = .ok (.aload_n 0, 1) := by decide +kernel
theorem d_M_clear_50 : decode c_M_clear 50 = .ok (.getfield 44, 3) := by decide +kernel
theorem d_M_clear_53 : decode c_M_clear 53 = .ok (.iload_n 1, 1) := by decide +kernel
theorem d_M_clear_54 : decode c_M_clear 54 = .ok (.iconst 0, 1) := by decide +kernel
theorem d_M_clear_55 : decode c_M_clear 55 = .ok (.bastore, 1) := by decide +kernel
theorem d_M_clear_56 : decode c_M_clear 56 = .ok (.iload_n 2, 1) := by decide +kernel
theorem d_M_clear_57 : decode c_M_clear 57 = .ok (.ireturn, 1) := by decide +kernel
theorem d_M_readsAll_0 : decode c_M_readsAll 0 = .ok (.aload_n 0, 1) := by decide +kernel
theorem d_M_readsAll_1 : decode c_M_readsAll 1 = .ok (.iload_n 1, 1) := by decide +kernel
theorem d_M_readsAll_2 : decode c_M_readsAll 2 = .ok (.invokevirtual 116, 3) := by decide +kernel
theorem d_M_readsAll_5 : decode c_M_readsAll 5 = .ok (.istore_n 2, 1) := by decide +kernel
theorem d_M_readsAll_6 : decode c_M_readsAll 6 = .ok (.iconst 0, 1) := by decide +kernel
theorem d_M_readsAll_7 : decode c_M_readsAll 7 = .ok (.istore_n 3, 1) := by decide +kernel
theorem d_M_readsAll_8 : decode c_M_readsAll 8 = .ok (.iload_n 3, 1) := by decide +kernel
theorem d_M_readsAll_9 : decode c_M_readsAll 9 = .ok (.aload_n 0, 1) := by decide +kernel
theorem d_M_readsAll_10 : decode c_M_readsAll 10 = .ok (.getfield 7, 3) := by decide +kernel
theorem d_M_readsAll_13 : decode c_M_readsAll 13 = .ok (.iload_n 1, 1) := by decide +kernel
theorem d_M_readsAll_14 : decode c_M_readsAll 14 = .ok (.iaload, 1) := by decide +kernel
theorem d_M_readsAll_15 : decode c_M_readsAll 15 = .ok (.if_icmp .ge 21, 3) := by decide +kernel
theorem d_M_readsAll_18 : decode c_M_readsAll 18 = .ok (.aload_n 0, 1) := by decide +kernel
theorem d_M_readsAll_19 : decode c_M_readsAll 19 = .ok (.getfield 22, 3) := by decide +kernel
theorem d_M_readsAll_22 : decode c_M_readsAll 22 = .ok (.bipush 12, 2) := by decide +kernel
theorem d_M_readsAll_24 : decode c_M_readsAll 24 = .ok (.iload_n 1, 1) := by decide +kernel
theorem d_M_readsAll_25 : decode c_M_readsAll 25 = .ok (.imul, 1) := by decide +kernel
theorem d_M_readsAll_26 : decode c_M_readsAll 26 = .ok (.iload_n 3, 1) := by decide +kernel
theorem d_M_readsAll_27 : decode c_M_readsAll 27 = .ok (.iadd, 1) := by decide +kernel
theorem d_M_readsAll_28 : decode c_M_readsAll 28 = .ok (.iconst 1, 1) := by decide +kernel
theorem d_M_readsAll_29 : decode c_M_readsAll 29 = .ok (.bastore, 1) := by decide +kernel
theorem d_M_readsAll_30 : decode c_M_readsAll 30 = .ok (.iinc 3 1, 3) := by decide +kernel
theorem d_M_readsAll_33 : decode c_M_readsAll 33 = .ok (.goto (-25), 3) := by decide +kernel
theorem d_M_readsAll_36 : decode c_M_readsAll 36 = .ok (.aload_n 0, 1) := by decide +kernel
theorem d_M_readsAll_37 : decode c_M_readsAll 37 = .ok (.dup, 1) := by decide +kernel
theorem d_M_readsAll_38 : decode c_M_readsAll 38 = .ok (.getfield 119, 3) := by decide +kernel
theorem d_M_readsAll_41 : decode c_M_readsAll 41 = .ok (.iload_n 2, 1) := by decide +kernel
theorem d_M_readsAll_42 : decode c_M_readsAll 42 = .ok (.ifCond .le 7, 3) := by decide +kernel
theorem d_M_readsAll_45 : decode c_M_readsAll 45 = .ok (.iconst 1, 1) := by decide +kernel
theorem d_M_readsAll_46 : decode c_M_readsAll 46 = .ok (.goto 4, 3) := by decide +kernel
theorem d_M_readsAll_49 : decode c_M_readsAll 49 = .ok (.iconst 0, 1) := by decide +kernel
theorem d_M_readsAll_50 : decode c_M_readsAll 50 = .ok (.iadd, 1) := by decide +kernel
theorem d_M_readsAll_51 : decode c_M_readsAll 51 = .ok (.putfield 119, 3) := by decide +kernel
theorem d_M_readsAll_54 : decode c_M_readsAll 54 = .ok (.iload_n 2, 1) := by decide +kernel
theorem d_M_readsAll_55 : decode c_M_readsAll 55 = .ok (.ireturn, 1) := by decide +kernel
theorem d_M_read_0 : decode c_M_read 0 = .ok (.iload_n 1, 1) := by decide +kernel
theorem d_M_read_1 : decode c_M_read 1 = .ok (.iload_n 2, 1) := by decide +kernel
theorem d_M_read_2 : decode c_M_read 2 = .ok (.invokestatic 82, 3) := by decide +kernel
theorem d_M_read_5 : decode c_M_read 5 = .ok (.ifCond .ne 6, 3) := by decide +kernel
theorem d_M_read_8 : decode c_M_read 8 = .ok (.bipush (-2), 2) := by decide +kernel
theorem d_M_read_10 : decode c_M_read 10 = .ok (.ireturn, 1) := by decide +kernel
theorem d_M_read_11 : decode c_M_read 11 = .ok (.aload_n 0, 1) := by decide +kernel
theorem d_M_read_12 : decode c_M_read 12 = .ok (.getfield 44, 3) := by decide +kernel
theorem d_M_read_15 : decode c_M_read 15 = .ok (.iload_n 1, 1) := by decide +kernel
theorem d_M_read_16 : decode c_M_read 16 = .ok (.baload, 1) := by decide +kernel
theorem d_M_read_17 : decode c_M_read 17 = .ok (.ifCond .eq 16, 3) := by decide +kernel
theorem d_M_read_20 : decode c_M_read 20 = .ok (.aload_n 0, 1) := by decide +kernel
theorem d_M_read_21 : decode c_M_read 21 = .ok (.bipush 8, 2) := by decide +kernel
theorem d_M_read_23 : decode c_M_read 23 = .ok (.iload_n 1, 1) := by decide +kernel
theorem d_M_read_24 : decode c_M_read 24 = .ok (.imul, 1) := by decide +kernel
theorem d_M_read_25 : decode c_M_read 25 = .ok (.iload_n 2, 1) := by decide +kernel
theorem d_M_read_26 : decode c_M_read 26 = .ok (.iadd, 1) := by decide +kernel
theorem d_M_read_27 : decode c_M_read 27 = .ok (.invokevirtual 123, 3) := by decide +kernel
theorem d_M_read_30 : decode c_M_read 30 = .ok (.goto 5, 3) := by decide +kernel
theorem d_M_read_33 : decode c_M_read 33 = .ok (.bipush (-3), 2) := by decide +kernel
theorem d_M_read_35 : decode c_M_read 35 = .ok (.ireturn, 1) := by decide +kernel
theorem d_M_isRowAt_0 : decode c_M_isRowAt 0 = .ok (.iload_n 1, 1) := by decide +kernel
theorem d_M_isRowAt_1 : decode c_M_isRowAt 1 = .ok (.iload_n 2, 1) := by decide +kernel
theorem d_M_isRowAt_2 : decode c_M_isRowAt 2 = .ok (.invokestatic 82, 3) := by decide +kernel
theorem d_M_isRowAt_5 : decode c_M_isRowAt 5 = .ok (.ifCond .eq 28, 3) := by decide +kernel
theorem d_M_isRowAt_8 : decode c_M_isRowAt 8 = .ok (.iload_n 3, 1) := by decide +kernel
theorem d_M_isRowAt_9 : decode c_M_isRowAt 9 = .ok (.iconst 0, 1) := by decide +kernel
theorem d_M_isRowAt_10 : decode c_M_isRowAt 10 = .ok (.aload_n 0, 1) := by decide +kernel
theorem d_M_isRowAt_11 : decode c_M_isRowAt 11 = .ok (.getfield 7, 3) := by decide +kernel
theorem d_M_isRowAt_14 : decode c_M_isRowAt 14 = .ok (.bipush 8, 2) := by decide +kernel
theorem d_M_isRowAt_16 : decode c_M_isRowAt 16 = .ok (.iload_n 1, 1) := by decide +kernel
theorem d_M_isRowAt_17 : decode c_M_isRowAt 17 = .ok (.imul, 1) := by decide +kernel
theorem d_M_isRowAt_18 : decode c_M_isRowAt 18 = .ok (.iload_n 2, 1) := by decide +kernel
theorem d_M_isRowAt_19 : decode c_M_isRowAt 19 = .ok (.iadd, 1) := by decide +kernel
theorem d_M_isRowAt_20 : decode c_M_isRowAt 20 = .ok (.iaload, 1) := by decide +kernel
theorem d_M_isRowAt_21 : decode c_M_isRowAt 21 = .ok (.iconst 1, 1) := by decide +kernel
theorem d_M_isRowAt_22 : decode c_M_isRowAt 22 = .ok (.isub, 1) := by decide +kernel
theorem d_M_isRowAt_23 : decode c_M_isRowAt 23 = .ok (.invokestatic 74, 3) := by decide +kernel
theorem d_M_isRowAt_26 : decode c_M_isRowAt 26 = .ok (.ifCond .eq 7, 3) := by decide +kernel
theorem d_M_isRowAt_29 : decode c_M_isRowAt 29 = .ok (.iconst 1, 1) := by decide +kernel
theorem d_M_isRowAt_30 : decode c_M_isRowAt 30 = .ok (.goto 4, 3) := by decide +kernel
theorem d_M_isRowAt_33 : decode c_M_isRowAt 33 = .ok (.iconst 0, 1) := by decide +kernel
theorem d_M_isRowAt_34 : decode c_M_isRowAt 34 = .ok (.ireturn, 1) := by decide +kernel
theorem d_M_change_0 : decode c_M_change 0 = .ok (.aload_n 0, 1) := by decide +kernel
theorem d_M_change_1 : decode c_M_change 1 = .ok (.iload_n 1, 1) := by decide +kernel
theorem d_M_change_2 : decode c_M_change 2 = .ok (.iload_n 2, 1) := by decide +kernel
theorem d_M_change_3 : decode c_M_change 3 = .ok (.iload_n 3, 1) := by decide +kernel
theorem d_M_change_4 : decode c_M_change 4 = .ok (.invokevirtual 126, 3) := by decide +kernel
theorem d_M_change_7 : decode c_M_change 7 = .ok (.ifCond .eq 17, 3) := by decide +kernel
theorem d_M_change_10 : decode c_M_change 10 = .ok (.iload 4, 2) := by decide +kernel
theorem d_M_change_12 : decode c_M_change 12 = .ok (.sipush (-1000), 3) := by decide +kernel
theorem d_M_change_15 : decode c_M_change 15 = .ok (.sipush 1000, 3) := by decide +kernel
theorem d_M_change_18 : decode c_M_change 18 = .ok (.invokestatic 74, 3) := by decide +kernel
theorem d_M_change_21 : decode c_M_change 21 = .ok (.ifCond .ne 6, 3) := by decide +kernel
theorem d_M_change_24 : decode c_M_change 24 = .ok (.bipush (-2), 2) := by decide +kernel
theorem d_M_change_26 : decode c_M_change 26 = .ok (.ireturn, 1) := by decide +kernel
theorem d_M_change_27 : decode c_M_change 27 = .ok (.aload_n 0, 1) := by decide +kernel
theorem d_M_change_28 : decode c_M_change 28 = .ok (.getfield 44, 3) := by decide +kernel
theorem d_M_change_31 : decode c_M_change 31 = .ok (.iload_n 1, 1) := by decide +kernel
theorem d_M_change_32 : decode c_M_change 32 = .ok (.baload, 1) := by decide +kernel
theorem d_M_change_33 : decode c_M_change 33 = .ok (.ifCond .ne 6, 3) := by decide +kernel
theorem d_M_change_36 : decode c_M_change 36 = .ok (.bipush (-3), 2) := by decide +kernel
theorem d_M_change_38 : decode c_M_change 38 = .ok (.ireturn, 1) := by decide +kernel
theorem d_M_change_39 : decode c_M_change 39 = .ok (.bipush 8, 2) := by decide +kernel
theorem d_M_change_41 : decode c_M_change 41 = .ok (.iload_n 1, 1) := by decide +kernel
theorem d_M_change_42 : decode c_M_change 42 = .ok (.imul, 1) := by decide +kernel
theorem d_M_change_43 : decode c_M_change 43 = .ok (.iload_n 2, 1) := by decide +kernel
theorem d_M_change_44 : decode c_M_change 44 = .ok (.iadd, 1) := by decide +kernel
theorem d_M_change_45 : decode c_M_change 45 = .ok (.istore 5, 2) := by decide +kernel
theorem d_M_change_47 : decode c_M_change 47 = .ok (.bipush 12, 2) := by decide +kernel
theorem d_M_change_49 : decode c_M_change 49 = .ok (.iload 5, 2) := by decide +kernel
theorem d_M_change_51 : decode c_M_change 51 = .ok (.imul, 1) := by decide +kernel
theorem d_M_change_52 : decode c_M_change 52 = .ok (.iload_n 3, 1) := by decide +kernel
theorem d_M_change_53 : decode c_M_change 53 = .ok (.iadd, 1) := by decide +kernel
theorem d_M_change_54 : decode c_M_change 54 = .ok (.istore 6, 2) := by decide +kernel
theorem d_M_change_56 : decode c_M_change 56 = .ok (.aload_n 0, 1) := by decide +kernel
theorem d_M_change_57 : decode c_M_change 57 = .ok (.getfield 41, 3) := by decide +kernel
theorem d_M_change_60 : decode c_M_change 60 = .ok (.iload 5, 2) := by decide +kernel
theorem d_M_change_62 : decode c_M_change 62 = .ok (.dup2, 1) := by decide +kernel
theorem d_M_change_63 : decode c_M_change 63 = .ok (.baload, 1) := by decide +kernel
theorem d_M_change_64 : decode c_M_change 64 = .ok (.aload_n 0, 1) := by decide +kernel
theorem d_M_change_65 : decode c_M_change 65 = .ok (.getfield 22, 3) := by decide +kernel
theorem d_M_change_68 : decode c_M_change 68 = .ok (.iload 6, 2) := by decide +kernel
theorem d_M_change_70 : decode c_M_change 70 = .ok (.baload, 1) := by decide +kernel
theorem d_M_change_71 : decode c_M_change 71 = .ok (.ifCond .ne 7, 3) := by decide +kernel
theorem d_M_change_74 : decode c_M_change 74 = .ok (.iconst 1, 1) := by decide +kernel
theorem d_M_change_75 : decode c_M_change 75 = .ok (.goto 4, 3) := by decide +kernel
theorem d_M_change_78 : decode c_M_change 78 = .ok (.iconst 0, 1) := by decide +kernel
theorem d_M_change_79 : decode c_M_change 79 = .ok (.ior, 1) := by decide +kernel
theorem d_M_change_80 : decode c_M_change 80 = .ok (.bastore, 1) := by decide +kernel
theorem d_M_change_81 : decode c_M_change 81 = .ok (.aload_n 0, 1) := by decide +kernel
theorem d_M_change_82 : decode c_M_change 82 = .ok (.getfield 22, 3) := by decide +kernel
theorem d_M_change_85 : decode c_M_change 85 = .ok (.iload 6, 2) := by decide +kernel
theorem d_M_change_87 : decode c_M_change 87 = .ok (.iconst 1, 1) := by decide +kernel
theorem d_M_change_88 : decode c_M_change 88 = .ok (.bastore, 1) := by decide +kernel
theorem d_M_change_89 : decode c_M_change 89 = .ok (.aload_n 0, 1) := by decide +kernel
theorem d_M_change_90 : decode c_M_change 90 = .ok (.getfield 19, 3) := by decide +kernel
theorem d_M_change_93 : decode c_M_change 93 = .ok (.iload 6, 2) := by decide +kernel
theorem d_M_change_95 : decode c_M_change 95 = .ok (.iload 4, 2) := by decide +kernel
theorem d_M_change_97 : decode c_M_change 97 = .ok (.iastore, 1) := by decide +kernel
theorem d_M_change_98 : decode c_M_change 98 = .ok (.iconst 1, 1) := by decide +kernel
theorem d_M_change_99 : decode c_M_change 99 = .ok (.ireturn, 1) := by decide +kernel
theorem d_M_value_0 : decode c_M_value 0 = .ok (.aload_n 0, 1) := by decide +kernel
theorem d_M_value_1 : decode c_M_value 1 = .ok (.iload_n 1, 1) := by decide +kernel
theorem d_M_value_2 : decode c_M_value 2 = .ok (.iload_n 2, 1) := by decide +kernel
theorem d_M_value_3 : decode c_M_value 3 = .ok (.iload_n 3, 1) := by decide +kernel
theorem d_M_value_4 : decode c_M_value 4 = .ok (.invokevirtual 126, 3) := by decide +kernel
theorem d_M_value_7 : decode c_M_value 7 = .ok (.ifCond .eq 12, 3) := by decide +kernel
theorem d_M_value_10 : decode c_M_value 10 = .ok (.aload_n 0, 1) := by decide +kernel
theorem d_M_value_11 : decode c_M_value 11 = .ok (.getfield 44, 3) := by decide +kernel
theorem d_M_value_14 : decode c_M_value 14 = .ok (.iload_n 1, 1) := by decide +kernel
theorem d_M_value_15 : decode c_M_value 15 = .ok (.baload, 1) := by decide +kernel
theorem d_M_value_16 : decode c_M_value 16 = .ok (.ifCond .ne 6, 3) := by decide +kernel
theorem d_M_value_19 : decode c_M_value 19 = .ok (.ldc 129, 2) := by decide +kernel
theorem d_M_value_21 : decode c_M_value 21 = .ok (.ireturn, 1) := by decide +kernel
theorem d_M_value_22 : decode c_M_value 22 = .ok (.bipush 12, 2) := by decide +kernel
theorem d_M_value_24 : decode c_M_value 24 = .ok (.bipush 8, 2) := by decide +kernel
theorem d_M_value_26 : decode c_M_value 26 = .ok (.iload_n 1, 1) := by decide +kernel
theorem d_M_value_27 : decode c_M_value 27 = .ok (.imul, 1) := by decide +kernel
theorem d_M_value_28 : decode c_M_value 28 = .ok (.iload_n 2, 1) := by decide +kernel
theorem d_M_value_29 : decode c_M_value 29 = .ok (.iadd, 1) := by decide +kernel
theorem d_M_value_30 : decode c_M_value 30 = .ok (.imul, 1) := by decide +kernel
theorem d_M_value_31 : decode c_M_value 31 = .ok (.iload_n 3, 1) := by decide +kernel
theorem d_M_value_32 : decode c_M_value 32 = .ok (.iadd, 1) := by decide +kernel
theorem d_M_value_33 : decode c_M_value 33 = .ok (.istore 4, 2) := by decide +kernel
theorem d_M_value_35 : decode c_M_value 35 = .ok (.aload_n 0, 1) := by decide +kernel
theorem d_M_value_36 : decode c_M_value 36 = .ok (.getfield 22, 3) := by decide +kernel
theorem d_M_value_39 : decode c_M_value 39 = .ok (.iload 4, 2) := by decide +kernel
theorem d_M_value_41 : decode c_M_value 41 = .ok (.baload, 1) := by decide +kernel
theorem d_M_value_42 : decode c_M_value 42 = .ok (.ifCond .eq 13, 3) := by decide +kernel
theorem d_M_value_45 : decode c_M_value 45 = .ok (.aload_n 0, 1) := by decide +kernel
theorem d_M_value_46 : decode c_M_value 46 = .ok (.getfield 19, 3) := by decide +kernel
theorem d_M_value_49 : decode c_M_value 49 = .ok (.iload 4, 2) := by decide +kernel
theorem d_M_value_51 : decode c_M_value 51 = .ok (.iaload, 1) := by decide +kernel
theorem d_M_value_52 : decode c_M_value 52 = .ok (.goto 5, 3) := by decide +kernel
theorem d_M_value_55 : decode c_M_value 55 = .ok (.ldc 129, 2) := by decide +kernel
theorem d_M_value_57 : decode c_M_value 57 = .ok (.ireturn, 1) := by decide +kernel
theorem d_M_heavyOf_0 : decode c_M_heavyOf 0 = .ok (.sipush 1001, 3) := by decide +kernel
theorem d_M_heavyOf_3 : decode c_M_heavyOf 3 = .ok (.istore_n 2, 1) := by decide +kernel
theorem d_M_heavyOf_4 : decode c_M_heavyOf 4 = .ok (.iconst 4, 1) := by decide +kernel
theorem d_M_heavyOf_5 : decode c_M_heavyOf 5 = .ok (.iload_n 1, 1) := by decide +kernel
theorem d_M_heavyOf_6 : decode c_M_heavyOf 6 = .ok (.imul, 1) := by decide +kernel
theorem d_M_heavyOf_7 : decode c_M_heavyOf 7 = .ok (.istore_n 3, 1) := by decide +kernel
theorem d_M_heavyOf_8 : decode c_M_heavyOf 8 = .ok (.iload_n 3, 1) := by decide +kernel
theorem d_M_heavyOf_9 : decode c_M_heavyOf 9 = .ok (.iconst 4, 1) := by decide +kernel
theorem d_M_heavyOf_10 : decode c_M_heavyOf 10 = .ok (.iload_n 1, 1) := by decide +kernel
theorem d_M_heavyOf_11 : decode c_M_heavyOf 11 = .ok (.imul, 1) := by decide +kernel
theorem d_M_heavyOf_12 : decode c_M_heavyOf 12 = .ok (.aload_n 0, 1) := by decide +kernel
theorem d_M_heavyOf_13 : decode c_M_heavyOf 13 = .ok (.getfield 47, 3) := by decide +kernel
theorem d_M_heavyOf_16 : decode c_M_heavyOf 16 = .ok (.iload_n 1, 1) := by decide +kernel
theorem d_M_heavyOf_17 : decode c_M_heavyOf 17 = .ok (.iaload, 1) := by decide +kernel
theorem d_M_heavyOf_18 : decode c_M_heavyOf 18 = .ok (.iadd, 1) := by decide +kernel
theorem d_M_heavyOf_19 : decode c_M_heavyOf 19 = .ok (.if_icmp .ge 40, 3) := by decide +kernel
theorem d_M_heavyOf_22 : decode c_M_heavyOf 22 = .ok (.aload_n 0, 1) := by decide +kernel
theorem d_M_heavyOf_23 : decode c_M_heavyOf 23 = .ok (.getfield 50, 3) := by decide +kernel
theorem d_M_heavyOf_26 : decode c_M_heavyOf 26 = .ok (.iload_n 3, 1) := by decide +kernel
theorem d_M_heavyOf_27 : decode c_M_heavyOf 27 = .ok (.iaload, 1) := by decide +kernel
theorem d_M_heavyOf_28 : decode c_M_heavyOf 28 = .ok (.iconst 3, 1) := by decide +kernel
theorem d_M_heavyOf_29 : decode c_M_heavyOf 29 = .ok (.if_icmp .ne 22, 3) := by decide +kernel
theorem d_M_heavyOf_32 : decode c_M_heavyOf 32 = .ok (.aload_n 0, 1) := by decide +kernel
theorem d_M_heavyOf_33 : decode c_M_heavyOf 33 = .ok (.getfield 53, 3) := by decide +kernel
theorem d_M_heavyOf_36 : decode c_M_heavyOf 36 = .ok (.iload_n 3, 1) := by decide +kernel
theorem d_M_heavyOf_37 : decode c_M_heavyOf 37 = .ok (.iaload, 1) := by decide +kernel
theorem d_M_heavyOf_38 : decode c_M_heavyOf 38 = .ok (.iload_n 2, 1) := by decide +kernel
theorem d_M_heavyOf_39 : decode c_M_heavyOf 39 = .ok (.if_icmp .ge 12, 3) := by decide +kernel
theorem d_M_heavyOf_42 : decode c_M_heavyOf 42 = .ok (.aload_n 0, 1) := by decide +kernel
theorem d_M_heavyOf_43 : decode c_M_heavyOf 43 = .ok (.getfield 53, 3) := by decide +kernel
theorem d_M_heavyOf_46 : decode c_M_heavyOf 46 = .ok (.iload_n 3, 1) := by decide +kernel
theorem d_M_heavyOf_47 : decode c_M_heavyOf 47 = .ok (.iaload, 1) := by decide +kernel
theorem d_M_heavyOf_48 : decode c_M_heavyOf 48 = .ok (.goto 4, 3) := by decide +kernel
theorem d_M_heavyOf_51 : decode c_M_heavyOf 51 = .ok (.iload_n 2, 1) := by decide +kernel
theorem d_M_heavyOf_52 : decode c_M_heavyOf 52 = .ok (.istore_n 2, 1) := by decide +kernel
theorem d_M_heavyOf_53 : decode c_M_heavyOf 53 = .ok (.iinc 3 1, 3) := by decide +kernel
theorem d_M_heavyOf_56 : decode c_M_heavyOf 56 = .ok (.goto (-48), 3) := by decide +kernel
theorem d_M_heavyOf_59 : decode c_M_heavyOf 59 = .ok (.iload_n 2, 1) := by decide +kernel
theorem d_M_heavyOf_60 : decode c_M_heavyOf 60 = .ok (.ireturn, 1) := by decide +kernel
theorem d_M_lowOf_0 : decode c_M_lowOf 0 = .ok (.iconst 1, 1) := by decide +kernel
theorem d_M_lowOf_1 : decode c_M_lowOf 1 = .ok (.aload_n 0, 1) := by decide +kernel
theorem d_M_lowOf_2 : decode c_M_lowOf 2 = .ok (.iload_n 1, 1) := by decide +kernel
theorem d_M_lowOf_3 : decode c_M_lowOf 3 = .ok (.invokevirtual 130, 3) := by decide +kernel
theorem d_M_lowOf_6 : decode c_M_lowOf 6 = .ok (.isub, 1) := by decide +kernel
theorem d_M_lowOf_7 : decode c_M_lowOf 7 = .ok (.istore_n 3, 1) := by decide +kernel
theorem d_M_lowOf_8 : decode c_M_lowOf 8 = .ok (.aload_n 0, 1) := by decide +kernel
theorem d_M_lowOf_9 : decode c_M_lowOf 9 = .ok (.getfield 32, 3) := by decide +kernel
theorem d_M_lowOf_12 : decode c_M_lowOf 12 = .ok (.iload_n 2, 1) := by decide +kernel
theorem d_M_lowOf_13 : decode c_M_lowOf 13 = .ok (.iaload, 1) := by decide +kernel
theorem d_M_lowOf_14 : decode c_M_lowOf 14 = .ok (.iload_n 3, 1) := by decide +kernel
theorem d_M_lowOf_15 : decode c_M_lowOf 15 = .ok (.if_icmp .ge 7, 3) := by decide +kernel
theorem d_M_lowOf_18 : decode c_M_lowOf 18 = .ok (.iload_n 3, 1) := by decide +kernel
theorem d_M_lowOf_19 : decode c_M_lowOf 19 = .ok (.goto 9, 3) := by decide +kernel
theorem d_M_lowOf_22 : decode c_M_lowOf 22 = .ok (.aload_n 0, 1) := by decide +kernel
theorem d_M_lowOf_23 : decode c_M_lowOf 23 = .ok (.getfield 32, 3) := by decide +kernel
theorem d_M_lowOf_26 : decode c_M_lowOf 26 = .ok (.iload_n 2, 1) := by decide +kernel
theorem d_M_lowOf_27 : decode c_M_lowOf 27 = .ok (.iaload, 1) := by decide +kernel
theorem d_M_lowOf_28 : decode c_M_lowOf 28 = .ok (.ireturn, 1) := by decide +kernel
theorem d_M_highOf_0 : decode c_M_highOf 0 = .ok (.aload_n 0, 1) := by decide +kernel
theorem d_M_highOf_1 : decode c_M_highOf 1 = .ok (.iload_n 1, 1) := by decide +kernel
theorem d_M_highOf_2 : decode c_M_highOf 2 = .ok (.invokevirtual 130, 3) := by decide +kernel
theorem d_M_highOf_5 : decode c_M_highOf 5 = .ok (.iconst 1, 1) := by decide +kernel
theorem d_M_highOf_6 : decode c_M_highOf 6 = .ok (.isub, 1) := by decide +kernel
theorem d_M_highOf_7 : decode c_M_highOf 7 = .ok (.istore_n 3, 1) := by decide +kernel
theorem d_M_highOf_8 : decode c_M_highOf 8 = .ok (.aload_n 0, 1) := by decide +kernel
theorem d_M_highOf_9 : decode c_M_highOf 9 = .ok (.getfield 35, 3) := by decide +kernel
theorem d_M_highOf_12 : decode c_M_highOf 12 = .ok (.iload_n 2, 1) := by decide +kernel
theorem d_M_highOf_13 : decode c_M_highOf 13 = .ok (.iaload, 1) := by decide +kernel
theorem d_M_highOf_14 : decode c_M_highOf 14 = .ok (.iload_n 3, 1) := by decide +kernel
theorem d_M_highOf_15 : decode c_M_highOf 15 = .ok (.if_icmp .le 7, 3) := by decide +kernel
theorem d_M_highOf_18 : decode c_M_highOf 18 = .ok (.iload_n 3, 1) := by decide +kernel
theorem d_M_highOf_19 : decode c_M_highOf 19 = .ok (.goto 9, 3) := by decide +kernel
theorem d_M_highOf_22 : decode c_M_highOf 22 = .ok (.aload_n 0, 1) := by decide +kernel
theorem d_M_highOf_23 : decode c_M_highOf 23 = .ok (.getfield 35, 3) := by decide +kernel
theorem d_M_highOf_26 : decode c_M_highOf 26 = .ok (.iload_n 2, 1) := by decide +kernel
theorem d_M_highOf_27 : decode c_M_highOf 27 = .ok (.iaload, 1) := by decide +kernel
theorem d_M_highOf_28 : decode c_M_highOf 28 = .ok (.ireturn, 1) := by decide +kernel
theorem d_M_isUnseen_0 : decode c_M_isUnseen 0 = .ok (.aload_n 0, 1) := by decide +kernel
theorem d_M_isUnseen_1 : decode c_M_isUnseen 1 = .ok (.getfield 41, 3) := by decide +kernel
theorem d_M_isUnseen_4 : decode c_M_isUnseen 4 = .ok (.iload_n 1, 1) := by decide +kernel
theorem d_M_isUnseen_5 : decode c_M_isUnseen 5 = .ok (.baload, 1) := by decide +kernel
theorem d_M_isUnseen_6 : decode c_M_isUnseen 6 = .ok (.ifCond .ne 7, 3) := by decide +kernel
theorem d_M_isUnseen_9 : decode c_M_isUnseen 9 = .ok (.iconst 1, 1) := by decide +kernel
theorem d_M_isUnseen_10 : decode c_M_isUnseen 10 = .ok (.goto 4, 3) := by decide +kernel
theorem d_M_isUnseen_13 : decode c_M_isUnseen 13 = .ok (.iconst 0, 1) := by decide +kernel
theorem d_M_isUnseen_14 : decode c_M_isUnseen 14 = .ok (.istore_n 3, 1) := by decide +kernel
theorem d_M_isUnseen_15 : decode c_M_isUnseen 15 = .ok (.iconst 0, 1) := by decide +kernel
theorem d_M_isUnseen_16 : decode c_M_isUnseen 16 = .ok (.istore 4, 2) := by decide +kernel
theorem d_M_isUnseen_18 : decode c_M_isUnseen 18 = .ok (.iload 4, 2) := by decide +kernel
theorem d_M_isUnseen_20 : decode c_M_isUnseen 20 = .ok (.aload_n 0, 1) := by decide +kernel
theorem d_M_isUnseen_21 : decode c_M_isUnseen 21 = .ok (.getfield 7, 3) := by decide +kernel
theorem d_M_isUnseen_24 : decode c_M_isUnseen 24 = .ok (.iload_n 1, 1) := by decide +kernel
theorem d_M_isUnseen_25 : decode c_M_isUnseen 25 = .ok (.iaload, 1) := by decide +kernel
theorem d_M_isUnseen_26 : decode c_M_isUnseen 26 = .ok (.if_icmp .ge 48, 3) := by decide +kernel
theorem d_M_isUnseen_29 : decode c_M_isUnseen 29 = .ok (.iload_n 3, 1) := by decide +kernel
theorem d_M_isUnseen_30 : decode c_M_isUnseen 30 = .ok (.aload_n 0, 1) := by decide +kernel
theorem d_M_isUnseen_31 : decode c_M_isUnseen 31 = .ok (.getfield 26, 3) := by decide +kernel
theorem d_M_isUnseen_34 : decode c_M_isUnseen 34 = .ok (.bipush 12, 2) := by decide +kernel
theorem d_M_isUnseen_36 : decode c_M_isUnseen 36 = .ok (.iload_n 1, 1) := by decide +kernel
theorem d_M_isUnseen_37 : decode c_M_isUnseen 37 = .ok (.imul, 1) := by decide +kernel
theorem d_M_isUnseen_38 : decode c_M_isUnseen 38 = .ok (.iload 4, 2) := by decide +kernel
theorem d_M_isUnseen_40 : decode c_M_isUnseen 40 = .ok (.iadd, 1) := by decide +kernel
theorem d_M_isUnseen_41 : decode c_M_isUnseen 41 = .ok (.baload, 1) := by decide +kernel
theorem d_M_isUnseen_42 : decode c_M_isUnseen 42 = .ok (.ifCond .eq 19, 3) := by decide +kernel
theorem d_M_isUnseen_45 : decode c_M_isUnseen 45 = .ok (.aload_n 0, 1) := by decide +kernel
theorem d_M_isUnseen_46 : decode c_M_isUnseen 46 = .ok (.getfield 29, 3) := by decide +kernel
theorem d_M_isUnseen_49 : decode c_M_isUnseen 49 = .ok (.bipush 12, 2) := by decide +kernel
theorem d_M_isUnseen_51 : decode c_M_isUnseen 51 = .ok (.iload_n 1, 1) := by decide +kernel
theorem d_M_isUnseen_52 : decode c_M_isUnseen 52 = .ok (.imul, 1) := by decide +kernel
theorem d_M_isUnseen_53 : decode c_M_isUnseen 53 = .ok (.iload 4, 2) := by decide +kernel
theorem d_M_isUnseen_55 : decode c_M_isUnseen 55 = .ok (.iadd, 1) := by decide +kernel
theorem d_M_isUnseen_56 : decode c_M_isUnseen 56 = .ok (.iaload, 1) := by decide +kernel
theorem d_M_isUnseen_57 : decode c_M_isUnseen 57 = .ok (.iload_n 2, 1) := by decide +kernel
theorem d_M_isUnseen_58 : decode c_M_isUnseen 58 = .ok (.if_icmp .eq 7, 3) := by decide +kernel
theorem d_M_isUnseen_61 : decode c_M_isUnseen 61 = .ok (.iconst 1, 1) := by decide +kernel
theorem d_M_isUnseen_62 : decode c_M_isUnseen 62 = .ok (.goto 4, 3) := by decide +kernel
theorem d_M_isUnseen_65 : decode c_M_isUnseen 65 = .ok (.iconst 0, 1) := by decide +kernel
theorem d_M_isUnseen_66 : decode c_M_isUnseen 66 = .ok (.iand, 1) := by decide +kernel
theorem d_M_isUnseen_67 : decode c_M_isUnseen 67 = .ok (.istore_n 3, 1) := by decide +kernel
theorem d_M_isUnseen_68 : decode c_M_isUnseen 68 = .ok (.iinc 4 1, 3) := by decide +kernel
theorem d_M_isUnseen_71 : decode c_M_isUnseen 71 = .ok (.goto (-53), 3) := by decide +kernel
theorem d_M_isUnseen_74 : decode c_M_isUnseen 74 = .ok (.iload_n 3, 1) := by decide +kernel
theorem d_M_isUnseen_75 : decode c_M_isUnseen 75 = .ok (.ireturn, 1) := by decide +kernel
theorem d_M_owesLeast_0 : decode c_M_owesLeast 0 = .ok (.aload_n 0, 1) := by decide +kernel
theorem d_M_owesLeast_1 : decode c_M_owesLeast 1 = .ok (.iload_n 1, 1) := by decide +kernel
theorem d_M_owesLeast_2 : decode c_M_owesLeast 2 = .ok (.iload_n 2, 1) := by decide +kernel
theorem d_M_owesLeast_3 : decode c_M_owesLeast 3 = .ok (.invokevirtual 133, 3) := by decide +kernel
theorem d_M_owesLeast_6 : decode c_M_owesLeast 6 = .ok (.aload_n 0, 1) := by decide +kernel
theorem d_M_owesLeast_7 : decode c_M_owesLeast 7 = .ok (.getfield 32, 3) := by decide +kernel
theorem d_M_owesLeast_10 : decode c_M_owesLeast 10 = .ok (.iload_n 2, 1) := by decide +kernel
theorem d_M_owesLeast_11 : decode c_M_owesLeast 11 = .ok (.iaload, 1) := by decide +kernel
theorem d_M_owesLeast_12 : decode c_M_owesLeast 12 = .ok (.if_icmp .ne 21, 3) := by decide +kernel
theorem d_M_owesLeast_15 : decode c_M_owesLeast 15 = .ok (.aload_n 0, 1) := by decide +kernel
theorem d_M_owesLeast_16 : decode c_M_owesLeast 16 = .ok (.iload_n 2, 1) := by decide +kernel
theorem d_M_owesLeast_17 : decode c_M_owesLeast 17 = .ok (.aload_n 0, 1) := by decide +kernel
theorem d_M_owesLeast_18 : decode c_M_owesLeast 18 = .ok (.getfield 32, 3) := by decide +kernel
theorem d_M_owesLeast_21 : decode c_M_owesLeast 21 = .ok (.iload_n 2, 1) := by decide +kernel
theorem d_M_owesLeast_22 : decode c_M_owesLeast 22 = .ok (.iaload, 1) := by decide +kernel
theorem d_M_owesLeast_23 : decode c_M_owesLeast 23 = .ok (.invokevirtual 137, 3) := by decide +kernel
theorem d_M_owesLeast_26 : decode c_M_owesLeast 26 = .ok (.ifCond .eq 7, 3) := by decide +kernel
theorem d_M_owesLeast_29 : decode c_M_owesLeast 29 = .ok (.iconst 1, 1) := by decide +kernel
theorem d_M_owesLeast_30 : decode c_M_owesLeast 30 = .ok (.goto 4, 3) := by decide +kernel
theorem d_M_owesLeast_33 : decode c_M_owesLeast 33 = .ok (.iconst 0, 1) := by decide +kernel
theorem d_M_owesLeast_34 : decode c_M_owesLeast 34 = .ok (.ireturn, 1) := by decide +kernel
theorem d_M_owesGreatest_0 : decode c_M_owesGreatest 0 = .ok (.aload_n 0, 1) := by decide +kernel
theorem d_M_owesGreatest_1 : decode c_M_owesGreatest 1 = .ok (.iload_n 1, 1) := by decide +kernel
theorem d_M_owesGreatest_2 : decode c_M_owesGreatest 2 = .ok (.iload_n 2, 1) := by decide +kernel
theorem d_M_owesGreatest_3 : decode c_M_owesGreatest 3 = .ok (.invokevirtual 140, 3) := by decide +kernel
theorem d_M_owesGreatest_6 : decode c_M_owesGreatest 6 = .ok (.aload_n 0, 1) := by decide +kernel
theorem d_M_owesGreatest_7 : decode c_M_owesGreatest 7 = .ok (.getfield 35, 3) := by decide +kernel
theorem d_M_owesGreatest_10 : decode c_M_owesGreatest 10 = .ok (.iload_n 2, 1) := by decide +kernel
theorem d_M_owesGreatest_11 : decode c_M_owesGreatest 11 = .ok (.iaload, 1) := by decide +kernel
theorem d_M_owesGreatest_12 : decode c_M_owesGreatest 12 = .ok (.if_icmp .ne 21, 3) := by decide +kernel
theorem d_M_owesGreatest_15 : decode c_M_owesGreatest 15 = .ok (.aload_n 0, 1) := by decide +kernel
theorem d_M_owesGreatest_16 : decode c_M_owesGreatest 16 = .ok (.iload_n 2, 1) := by decide +kernel
theorem d_M_owesGreatest_17 : decode c_M_owesGreatest 17 = .ok (.aload_n 0, 1) := by decide +kernel
theorem d_M_owesGreatest_18 : decode c_M_owesGreatest 18 = .ok (.getfield 35, 3) := by decide +kernel
theorem d_M_owesGreatest_21 : decode c_M_owesGreatest 21 = .ok (.iload_n 2, 1) := by decide +kernel
theorem d_M_owesGreatest_22 : decode c_M_owesGreatest 22 = .ok (.iaload, 1) := by decide +kernel
theorem d_M_owesGreatest_23 : decode c_M_owesGreatest 23 = .ok (.invokevirtual 137, 3) := by decide +kernel
theorem d_M_owesGreatest_26 : decode c_M_owesGreatest 26 = .ok (.ifCond .eq 7, 3) := by decide +kernel
theorem d_M_owesGreatest_29 : decode c_M_owesGreatest 29 = .ok (.iconst 1, 1) := by decide +kernel
theorem d_M_owesGreatest_30 : decode c_M_owesGreatest 30 = .ok (.goto 4, 3) := by decide +kernel
theorem d_M_owesGreatest_33 : decode c_M_owesGreatest 33 = .ok (.iconst 0, 1) := by decide +kernel
theorem d_M_owesGreatest_34 : decode c_M_owesGreatest 34 = .ok (.ireturn, 1) := by decide +kernel
theorem d_M_about_0 : decode c_M_about 0 = .ok (.iload_n 1, 1) := by decide +kernel
theorem d_M_about_1 : decode c_M_about 1 = .ok (.iload_n 2, 1) := by decide +kernel
theorem d_M_about_2 : decode c_M_about 2 = .ok (.invokestatic 82, 3) := by decide +kernel
theorem d_M_about_5 : decode c_M_about 5 = .ok (.ifCond .eq 12, 3) := by decide +kernel
theorem d_M_about_8 : decode c_M_about 8 = .ok (.aload_n 0, 1) := by decide +kernel
theorem d_M_about_9 : decode c_M_about 9 = .ok (.getfield 44, 3) := by decide +kernel
theorem d_M_about_12 : decode c_M_about 12 = .ok (.iload_n 1, 1) := by decide +kernel
theorem d_M_about_13 : decode c_M_about 13 = .ok (.baload, 1) := by decide +kernel
theorem d_M_about_14 : decode c_M_about 14 = .ok (.ifCond .ne 6, 3) := by decide +kernel
theorem d_M_about_17 : decode c_M_about 17 = .ok (.ldc 129, 2) := by decide +kernel
theorem d_M_about_19 : decode c_M_about 19 = .ok (.ireturn, 1) := by decide +kernel
theorem d_M_about_20 : decode c_M_about 20 = .ok (.bipush 8, 2) := by decide +kernel
theorem d_M_about_22 : decode c_M_about 22 = .ok (.iload_n 1, 1) := by decide +kernel
theorem d_M_about_23 : decode c_M_about 23 = .ok (.imul, 1) := by decide +kernel
theorem d_M_about_24 : decode c_M_about 24 = .ok (.iload_n 2, 1) := by decide +kernel
theorem d_M_about_25 : decode c_M_about 25 = .ok (.iadd, 1) := by decide +kernel
theorem d_M_about_26 : decode c_M_about 26 = .ok (.istore 4, 2) := by decide +kernel
theorem d_M_about_28 : decode c_M_about 28 = .ok (.aload_n 0, 1) := by decide +kernel
theorem d_M_about_29 : decode c_M_about 29 = .ok (.iload 4, 2) := by decide +kernel
theorem d_M_about_31 : decode c_M_about 31 = .ok (.invokevirtual 116, 3) := by decide +kernel
theorem d_M_about_34 : decode c_M_about 34 = .ok (.ifCond .le 7, 3) := by decide +kernel
theorem d_M_about_37 : decode c_M_about 37 = .ok (.iconst 1, 1) := by decide +kernel
theorem d_M_about_38 : decode c_M_about 38 = .ok (.goto 4, 3) := by decide +kernel
theorem d_M_about_41 : decode c_M_about 41 = .ok (.iconst 0, 1) := by decide +kernel
theorem d_M_about_42 : decode c_M_about 42 = .ok (.istore 5, 2) := by decide +kernel
theorem d_M_about_44 : decode c_M_about 44 = .ok (.iload_n 3, 1) := by decide +kernel
theorem d_M_about_45 : decode c_M_about 45 = .ok (.tableswitch 154 0 7 #[47, 55, 63, 71, 78, 95, 112, 133], 47) := by decide +kernel
theorem d_M_about_92 : decode c_M_about 92 = .ok (.aload_n 0, 1) := by decide +kernel
theorem d_M_about_93 : decode c_M_about 93 = .ok (.getfield 7, 3) := by decide +kernel
theorem d_M_about_96 : decode c_M_about 96 = .ok (.iload 4, 2) := by decide +kernel
theorem d_M_about_98 : decode c_M_about 98 = .ok (.iaload, 1) := by decide +kernel
theorem d_M_about_99 : decode c_M_about 99 = .ok (.ireturn, 1) := by decide +kernel
theorem d_M_about_100 : decode c_M_about 100 = .ok (.aload_n 0, 1) := by decide +kernel
theorem d_M_about_101 : decode c_M_about 101 = .ok (.getfield 32, 3) := by decide +kernel
theorem d_M_about_104 : decode c_M_about 104 = .ok (.iload 4, 2) := by decide +kernel
theorem d_M_about_106 : decode c_M_about 106 = .ok (.iaload, 1) := by decide +kernel
theorem d_M_about_107 : decode c_M_about 107 = .ok (.ireturn, 1) := by decide +kernel
theorem d_M_about_108 : decode c_M_about 108 = .ok (.aload_n 0, 1) := by decide +kernel
theorem d_M_about_109 : decode c_M_about 109 = .ok (.getfield 35, 3) := by decide +kernel
theorem d_M_about_112 : decode c_M_about 112 = .ok (.iload 4, 2) := by decide +kernel
theorem d_M_about_114 : decode c_M_about 114 = .ok (.iaload, 1) := by decide +kernel
theorem d_M_about_115 : decode c_M_about 115 = .ok (.ireturn, 1) := by decide +kernel
theorem d_M_about_116 : decode c_M_about 116 = .ok (.aload_n 0, 1) := by decide +kernel
theorem d_M_about_117 : decode c_M_about 117 = .ok (.iload 4, 2) := by decide +kernel
theorem d_M_about_119 : decode c_M_about 119 = .ok (.invokevirtual 116, 3) := by decide +kernel
theorem d_M_about_122 : decode c_M_about 122 = .ok (.ireturn, 1) := by decide +kernel
theorem d_M_about_123 : decode c_M_about 123 = .ok (.iload 5, 2) := by decide +kernel
theorem d_M_about_125 : decode c_M_about 125 = .ok (.ifCond .eq 13, 3) := by decide +kernel
theorem d_M_about_128 : decode c_M_about 128 = .ok (.aload_n 0, 1) := by decide +kernel
theorem d_M_about_129 : decode c_M_about 129 = .ok (.iload_n 1, 1) := by decide +kernel
theorem d_M_about_130 : decode c_M_about 130 = .ok (.iload 4, 2) := by decide +kernel
theorem d_M_about_132 : decode c_M_about 132 = .ok (.invokevirtual 133, 3) := by decide +kernel
theorem d_M_about_135 : decode c_M_about 135 = .ok (.goto 4, 3) := by decide +kernel
theorem d_M_about_138 : decode c_M_about 138 = .ok (.iconst 0, 1) := by decide +kernel
theorem d_M_about_139 : decode c_M_about 139 = .ok (.ireturn, 1) := by decide +kernel
theorem d_M_about_140 : decode c_M_about 140 = .ok (.iload 5, 2) := by decide +kernel
theorem d_M_about_142 : decode c_M_about 142 = .ok (.ifCond .eq 13, 3) := by decide +kernel
theorem d_M_about_145 : decode c_M_about 145 = .ok (.aload_n 0, 1) := by decide +kernel
theorem d_M_about_146 : decode c_M_about 146 = .ok (.iload_n 1, 1) := by decide +kernel
theorem d_M_about_147 : decode c_M_about 147 = .ok (.iload 4, 2) := by decide +kernel
theorem d_M_about_149 : decode c_M_about 149 = .ok (.invokevirtual 140, 3) := by decide +kernel
theorem d_M_about_152 : decode c_M_about 152 = .ok (.goto 4, 3) := by decide +kernel
theorem d_M_about_155 : decode c_M_about 155 = .ok (.iconst 0, 1) := by decide +kernel
theorem d_M_about_156 : decode c_M_about 156 = .ok (.ireturn, 1) := by decide +kernel
theorem d_M_about_157 : decode c_M_about 157 = .ok (.iload 5, 2) := by decide +kernel
theorem d_M_about_159 : decode c_M_about 159 = .ok (.ifCond .eq 17, 3) := by decide +kernel
theorem d_M_about_162 : decode c_M_about 162 = .ok (.aload_n 0, 1) := by decide +kernel
theorem d_M_about_163 : decode c_M_about 163 = .ok (.iload_n 1, 1) := by decide +kernel
theorem d_M_about_164 : decode c_M_about 164 = .ok (.iload 4, 2) := by decide +kernel
theorem d_M_about_166 : decode c_M_about 166 = .ok (.invokevirtual 143, 3) := by decide +kernel
theorem d_M_about_169 : decode c_M_about 169 = .ok (.ifCond .eq 7, 3) := by decide +kernel
theorem d_M_about_172 : decode c_M_about 172 = .ok (.iconst 1, 1) := by decide +kernel
theorem d_M_about_173 : decode c_M_about 173 = .ok (.goto 4, 3) := by decide +kernel
theorem d_M_about_176 : decode c_M_about 176 = .ok (.iconst 0, 1) := by decide +kernel
theorem d_M_about_177 : decode c_M_about 177 = .ok (.ireturn, 1) := by decide +kernel
theorem d_M_about_178 : decode c_M_about 178 = .ok (.iload 5, 2) := by decide +kernel
theorem d_M_about_180 : decode c_M_about 180 = .ok (.ifCond .eq 17, 3) := by decide +kernel
theorem d_M_about_183 : decode c_M_about 183 = .ok (.aload_n 0, 1) := by decide +kernel
theorem d_M_about_184 : decode c_M_about 184 = .ok (.iload_n 1, 1) := by decide +kernel
theorem d_M_about_185 : decode c_M_about 185 = .ok (.iload 4, 2) := by decide +kernel
theorem d_M_about_187 : decode c_M_about 187 = .ok (.invokevirtual 146, 3) := by decide +kernel
theorem d_M_about_190 : decode c_M_about 190 = .ok (.ifCond .eq 7, 3) := by decide +kernel
theorem d_M_about_193 : decode c_M_about 193 = .ok (.iconst 1, 1) := by decide +kernel
theorem d_M_about_194 : decode c_M_about 194 = .ok (.goto 4, 3) := by decide +kernel
theorem d_M_about_197 : decode c_M_about 197 = .ok (.iconst 0, 1) := by decide +kernel
theorem d_M_about_198 : decode c_M_about 198 = .ok (.ireturn, 1) := by decide +kernel
theorem d_M_about_199 : decode c_M_about 199 = .ok (.iload_n 3, 1) := by decide +kernel
theorem d_M_about_200 : decode c_M_about 200 = .ok (.bipush 10, 2) := by decide +kernel
theorem d_M_about_202 : decode c_M_about 202 = .ok (.bipush 13, 2) := by decide +kernel
theorem d_M_about_204 : decode c_M_about 204 = .ok (.invokestatic 74, 3) := by decide +kernel
theorem d_M_about_207 : decode c_M_about 207 = .ok (.ifCond .eq 20, 3) := by decide +kernel
theorem d_M_about_210 : decode c_M_about 210 = .ok (.aload_n 0, 1) := by decide +kernel
theorem d_M_about_211 : decode c_M_about 211 = .ok (.getfield 38, 3) := by decide +kernel
theorem d_M_about_214 : decode c_M_about 214 = .ok (.iconst 4, 1) := by decide +kernel
theorem d_M_about_215 : decode c_M_about 215 = .ok (.iload 4, 2) := by decide +kernel
theorem d_M_about_217 : decode c_M_about 217 = .ok (.imul, 1) := by decide +kernel
theorem d_M_about_218 : decode c_M_about 218 = .ok (.iload_n 3, 1) := by decide +kernel
theorem d_M_about_219 : decode c_M_about 219 = .ok (.iadd, 1) := by decide +kernel
theorem d_M_about_220 : decode c_M_about 220 = .ok (.bipush 10, 2) := by decide +kernel
theorem d_M_about_222 : decode c_M_about 222 = .ok (.isub, 1) := by decide +kernel
theorem d_M_about_223 : decode c_M_about 223 = .ok (.iaload, 1) := by decide +kernel
theorem d_M_about_224 : decode c_M_about 224 = .ok (.goto 5, 3) := by decide +kernel
theorem d_M_about_227 : decode c_M_about 227 = .ok (.ldc 129, 2) := by decide +kernel
theorem d_M_about_229 : decode c_M_about 229 = .ok (.ireturn, 1) := by decide +kernel
theorem d_M_isGroup_0 : decode c_M_isGroup 0 = .ok (.iload_n 0, 1) := by decide +kernel
theorem d_M_isGroup_1 : decode c_M_isGroup 1 = .ok (.iconst (-1), 1) := by decide +kernel
theorem d_M_isGroup_2 : decode c_M_isGroup 2 = .ok (.iconst 3, 1) := by decide +kernel
theorem d_M_isGroup_3 : decode c_M_isGroup 3 = .ok (.invokestatic 74, 3) := by decide +kernel
theorem d_M_isGroup_6 : decode c_M_isGroup 6 = .ok (.ireturn, 1) := by decide +kernel
theorem d_M_sumOf_0 : decode c_M_sumOf 0 = .ok (.lconst 0, 1) := by decide +kernel
theorem d_M_sumOf_1 : decode c_M_sumOf 1 = .ok (.lstore 5, 2) := by decide +kernel
theorem d_M_sumOf_3 : decode c_M_sumOf 3 = .ok (.iload_n 3, 1) := by decide +kernel
theorem d_M_sumOf_4 : decode c_M_sumOf 4 = .ok (.ifCond .ge 12, 3) := by decide +kernel
theorem d_M_sumOf_7 : decode c_M_sumOf 7 = .ok (.aload_n 0, 1) := by decide +kernel
theorem d_M_sumOf_8 : decode c_M_sumOf 8 = .ok (.getfield 7, 3) := by decide +kernel
theorem d_M_sumOf_11 : decode c_M_sumOf 11 = .ok (.iload_n 2, 1) := by decide +kernel
theorem d_M_sumOf_12 : decode c_M_sumOf 12 = .ok (.iaload, 1) := by decide +kernel
theorem d_M_sumOf_13 : decode c_M_sumOf 13 = .ok (.goto 13, 3) := by decide +kernel
theorem d_M_sumOf_16 : decode c_M_sumOf 16 = .ok (.aload_n 0, 1) := by decide +kernel
theorem d_M_sumOf_17 : decode c_M_sumOf 17 = .ok (.getfield 38, 3) := by decide +kernel
theorem d_M_sumOf_20 : decode c_M_sumOf 20 = .ok (.iconst 4, 1) := by decide +kernel
theorem d_M_sumOf_21 : decode c_M_sumOf 21 = .ok (.iload_n 2, 1) := by decide +kernel
theorem d_M_sumOf_22 : decode c_M_sumOf 22 = .ok (.imul, 1) := by decide +kernel
theorem d_M_sumOf_23 : decode c_M_sumOf 23 = .ok (.iload_n 3, 1) := by decide +kernel
theorem d_M_sumOf_24 : decode c_M_sumOf 24 = .ok (.iadd, 1) := by decide +kernel
theorem d_M_sumOf_25 : decode c_M_sumOf 25 = .ok (.iaload, 1) := by decide +kernel
theorem d_M_sumOf_26 : decode c_M_sumOf 26 = .ok (.istore 7, 2) := by decide +kernel
theorem d_M_sumOf_28 : decode c_M_sumOf 28 = .ok (.iconst 0, 1) := by decide +kernel
theorem d_M_sumOf_29 : decode c_M_sumOf 29 = .ok (.istore 8, 2) := by decide +kernel
theorem d_M_sumOf_31 : decode c_M_sumOf 31 = .ok (.iload 8, 2) := by decide +kernel
theorem d_M_sumOf_33 : decode c_M_sumOf 33 = .ok (.aload_n 0, 1) := by decide +kernel
theorem d_M_sumOf_34 : decode c_M_sumOf 34 = .ok (.getfield 7, 3) := by decide +kernel
theorem d_M_sumOf_37 : decode c_M_sumOf 37 = .ok (.iload_n 2, 1) := by decide +kernel
theorem d_M_sumOf_38 : decode c_M_sumOf 38 = .ok (.iaload, 1) := by decide +kernel
theorem d_M_sumOf_39 : decode c_M_sumOf 39 = .ok (.if_icmp .ge 59, 3) := by decide +kernel
theorem d_M_sumOf_42 : decode c_M_sumOf 42 = .ok (.bipush 12, 2) := by decide +kernel
theorem d_M_sumOf_44 : decode c_M_sumOf 44 = .ok (.iload_n 2, 1) := by decide +kernel
theorem d_M_sumOf_45 : decode c_M_sumOf 45 = .ok (.imul, 1) := by decide +kernel
theorem d_M_sumOf_46 : decode c_M_sumOf 46 = .ok (.iload 8, 2) := by decide +kernel
theorem d_M_sumOf_48 : decode c_M_sumOf 48 = .ok (.iadd, 1) := by decide +kernel
theorem d_M_sumOf_49 : decode c_M_sumOf 49 = .ok (.istore 9, 2) := by decide +kernel
theorem d_M_sumOf_51 : decode c_M_sumOf 51 = .ok (.aload_n 0, 1) := by decide +kernel
theorem d_M_sumOf_52 : decode c_M_sumOf 52 = .ok (.getfield 22, 3) := by decide +kernel
theorem d_M_sumOf_55 : decode c_M_sumOf 55 = .ok (.iload 9, 2) := by decide +kernel
theorem d_M_sumOf_57 : decode c_M_sumOf 57 = .ok (.baload, 1) := by decide +kernel
theorem d_M_sumOf_58 : decode c_M_sumOf 58 = .ok (.ifCond .eq 34, 3) := by decide +kernel
theorem d_M_sumOf_61 : decode c_M_sumOf 61 = .ok (.iload_n 3, 1) := by decide +kernel
theorem d_M_sumOf_62 : decode c_M_sumOf 62 = .ok (.ifCond .lt 14, 3) := by decide +kernel
theorem d_M_sumOf_65 : decode c_M_sumOf 65 = .ok (.aload_n 0, 1) := by decide +kernel
theorem d_M_sumOf_66 : decode c_M_sumOf 66 = .ok (.getfield 16, 3) := by decide +kernel
theorem d_M_sumOf_69 : decode c_M_sumOf 69 = .ok (.iload 9, 2) := by decide +kernel
theorem d_M_sumOf_71 : decode c_M_sumOf 71 = .ok (.iaload, 1) := by decide +kernel
theorem d_M_sumOf_72 : decode c_M_sumOf 72 = .ok (.iload_n 3, 1) := by decide +kernel
theorem d_M_sumOf_73 : decode c_M_sumOf 73 = .ok (.if_icmp .ne 19, 3) := by decide +kernel
theorem d_M_sumOf_76 : decode c_M_sumOf 76 = .ok (.lload 5, 2) := by decide +kernel
theorem d_M_sumOf_78 : decode c_M_sumOf 78 = .ok (.aload_n 0, 1) := by decide +kernel
theorem d_M_sumOf_79 : decode c_M_sumOf 79 = .ok (.getfield 19, 3) := by decide +kernel
theorem d_M_sumOf_82 : decode c_M_sumOf 82 = .ok (.iload 9, 2) := by decide +kernel
theorem d_M_sumOf_84 : decode c_M_sumOf 84 = .ok (.iaload, 1) := by decide +kernel
theorem d_M_sumOf_85 : decode c_M_sumOf 85 = .ok (.i2l, 1) := by decide +kernel
theorem d_M_sumOf_86 : decode c_M_sumOf 86 = .ok (.ladd, 1) := by decide +kernel
theorem d_M_sumOf_87 : decode c_M_sumOf 87 = .ok (.lstore 5, 2) := by decide +kernel
theorem d_M_sumOf_89 : decode c_M_sumOf 89 = .ok (.iinc 7 (-1), 3) := by decide +kernel
theorem d_M_sumOf_92 : decode c_M_sumOf 92 = .ok (.iinc 8 1, 3) := by decide +kernel
theorem d_M_sumOf_95 : decode c_M_sumOf 95 = .ok (.goto (-64), 3) := by decide +kernel
theorem d_M_sumOf_98 : decode c_M_sumOf 98 = .ok (.iload 7, 2) := by decide +kernel
theorem d_M_sumOf_100 : decode c_M_sumOf 100 = .ok (.ifCond .ne 6, 3) := by decide +kernel
theorem d_M_sumOf_103 : decode c_M_sumOf 103 = .ok (.lload 5, 2) := by decide +kernel
theorem d_M_sumOf_105 : decode c_M_sumOf 105 = .ok (.lreturn, 1) := by decide +kernel
theorem d_M_sumOf_106 : decode c_M_sumOf 106 = .ok (.aload_n 0, 1) := by decide +kernel
theorem d_M_sumOf_107 : decode c_M_sumOf 107 = .ok (.iload_n 2, 1) := by decide +kernel
theorem d_M_sumOf_108 : decode c_M_sumOf 108 = .ok (.invokevirtual 116, 3) := by decide +kernel
theorem d_M_sumOf_111 : decode c_M_sumOf 111 = .ok (.istore 8, 2) := by decide +kernel
theorem d_M_sumOf_113 : decode c_M_sumOf 113 = .ok (.aload_n 0, 1) := by decide +kernel
theorem d_M_sumOf_114 : decode c_M_sumOf 114 = .ok (.iload_n 1, 1) := by decide +kernel
theorem d_M_sumOf_115 : decode c_M_sumOf 115 = .ok (.iload_n 2, 1) := by decide +kernel
theorem d_M_sumOf_116 : decode c_M_sumOf 116 = .ok (.invokevirtual 133, 3) := by decide +kernel
theorem d_M_sumOf_119 : decode c_M_sumOf 119 = .ok (.i2l, 1) := by decide +kernel
theorem d_M_sumOf_120 : decode c_M_sumOf 120 = .ok (.lstore 9, 2) := by decide +kernel
theorem d_M_sumOf_122 : decode c_M_sumOf 122 = .ok (.aload_n 0, 1) := by decide +kernel
theorem d_M_sumOf_123 : decode c_M_sumOf 123 = .ok (.iload_n 1, 1) := by decide +kernel
theorem d_M_sumOf_124 : decode c_M_sumOf 124 = .ok (.iload_n 2, 1) := by decide +kernel
theorem d_M_sumOf_125 : decode c_M_sumOf 125 = .ok (.invokevirtual 140, 3) := by decide +kernel
theorem d_M_sumOf_128 : decode c_M_sumOf 128 = .ok (.i2l, 1) := by decide +kernel
theorem d_M_sumOf_129 : decode c_M_sumOf 129 = .ok (.lstore 11, 2) := by decide +kernel
theorem d_M_sumOf_131 : decode c_M_sumOf 131 = .ok (.iload 4, 2) := by decide +kernel
theorem d_M_sumOf_133 : decode c_M_sumOf 133 = .ok (.ifCond .ne 39, 3) := by decide +kernel
theorem d_M_sumOf_136 : decode c_M_sumOf 136 = .ok (.lload 5, 2) := by decide +kernel
theorem d_M_sumOf_138 : decode c_M_sumOf 138 = .ok (.iload 7, 2) := by decide +kernel
theorem d_M_sumOf_140 : decode c_M_sumOf 140 = .ok (.i2l, 1) := by decide +kernel
theorem d_M_sumOf_141 : decode c_M_sumOf 141 = .ok (.lload 9, 2) := by decide +kernel
theorem d_M_sumOf_143 : decode c_M_sumOf 143 = .ok (.lmul, 1) := by decide +kernel
theorem d_M_sumOf_144 : decode c_M_sumOf 144 = .ok (.ladd, 1) := by decide +kernel
theorem d_M_sumOf_145 : decode c_M_sumOf 145 = .ok (.iload 7, 2) := by decide +kernel
theorem d_M_sumOf_147 : decode c_M_sumOf 147 = .ok (.iload 8, 2) := by decide +kernel
theorem d_M_sumOf_149 : decode c_M_sumOf 149 = .ok (.if_icmp .ne 20, 3) := by decide +kernel
theorem d_M_sumOf_152 : decode c_M_sumOf 152 = .ok (.aload_n 0, 1) := by decide +kernel
theorem d_M_sumOf_153 : decode c_M_sumOf 153 = .ok (.iload_n 1, 1) := by decide +kernel
theorem d_M_sumOf_154 : decode c_M_sumOf 154 = .ok (.iload_n 2, 1) := by decide +kernel
theorem d_M_sumOf_155 : decode c_M_sumOf 155 = .ok (.invokevirtual 146, 3) := by decide +kernel
theorem d_M_sumOf_158 : decode c_M_sumOf 158 = .ok (.ifCond .eq 11, 3) := by decide +kernel
theorem d_M_sumOf_161 : decode c_M_sumOf 161 = .ok (.lload 11, 2) := by decide +kernel
theorem d_M_sumOf_163 : decode c_M_sumOf 163 = .ok (.lload 9, 2) := by decide +kernel
theorem d_M_sumOf_165 : decode c_M_sumOf 165 = .ok (.lsub, 1) := by decide +kernel
theorem d_M_sumOf_166 : decode c_M_sumOf 166 = .ok (.goto 4, 3) := by decide +kernel
theorem d_M_sumOf_169 : decode c_M_sumOf 169 = .ok (.lconst 0, 1) := by decide +kernel
theorem d_M_sumOf_170 : decode c_M_sumOf 170 = .ok (.ladd, 1) := by decide +kernel
theorem d_M_sumOf_171 : decode c_M_sumOf 171 = .ok (.lreturn, 1) := by decide +kernel
theorem d_M_sumOf_172 : decode c_M_sumOf 172 = .ok (.lload 5, 2) := by decide +kernel
theorem d_M_sumOf_174 : decode c_M_sumOf 174 = .ok (.iload 7, 2) := by decide +kernel
theorem d_M_sumOf_176 : decode c_M_sumOf 176 = .ok (.i2l, 1) := by decide +kernel
theorem d_M_sumOf_177 : decode c_M_sumOf 177 = .ok (.lload 11, 2) := by decide +kernel
theorem d_M_sumOf_179 : decode c_M_sumOf 179 = .ok (.lmul, 1) := by decide +kernel
theorem d_M_sumOf_180 : decode c_M_sumOf 180 = .ok (.ladd, 1) := by decide +kernel
theorem d_M_sumOf_181 : decode c_M_sumOf 181 = .ok (.iload 7, 2) := by decide +kernel
theorem d_M_sumOf_183 : decode c_M_sumOf 183 = .ok (.iload 8, 2) := by decide +kernel
theorem d_M_sumOf_185 : decode c_M_sumOf 185 = .ok (.if_icmp .ne 20, 3) := by decide +kernel
theorem d_M_sumOf_188 : decode c_M_sumOf 188 = .ok (.aload_n 0, 1) := by decide +kernel
theorem d_M_sumOf_189 : decode c_M_sumOf 189 = .ok (.iload_n 1, 1) := by decide +kernel
theorem d_M_sumOf_190 : decode c_M_sumOf 190 = .ok (.iload_n 2, 1) := by decide +kernel
theorem d_M_sumOf_191 : decode c_M_sumOf 191 = .ok (.invokevirtual 143, 3) := by decide +kernel
theorem d_M_sumOf_194 : decode c_M_sumOf 194 = .ok (.ifCond .eq 11, 3) := by decide +kernel
theorem d_M_sumOf_197 : decode c_M_sumOf 197 = .ok (.lload 11, 2) := by decide +kernel
theorem d_M_sumOf_199 : decode c_M_sumOf 199 = .ok (.lload 9, 2) := by decide +kernel
theorem d_M_sumOf_201 : decode c_M_sumOf 201 = .ok (.lsub, 1) := by decide +kernel
theorem d_M_sumOf_202 : decode c_M_sumOf 202 = .ok (.goto 4, 3) := by decide +kernel
theorem d_M_sumOf_205 : decode c_M_sumOf 205 = .ok (.lconst 0, 1) := by decide +kernel
theorem d_M_sumOf_206 : decode c_M_sumOf 206 = .ok (.lsub, 1) := by decide +kernel
theorem d_M_sumOf_207 : decode c_M_sumOf 207 = .ok (.lreturn, 1) := by decide +kernel
theorem d_M_sumNow_0 : decode c_M_sumNow 0 = .ok (.lconst 0, 1) := by decide +kernel
theorem d_M_sumNow_1 : decode c_M_sumNow 1 = .ok (.lstore 4, 2) := by decide +kernel
theorem d_M_sumNow_3 : decode c_M_sumNow 3 = .ok (.iconst 0, 1) := by decide +kernel
theorem d_M_sumNow_4 : decode c_M_sumNow 4 = .ok (.istore 6, 2) := by decide +kernel
theorem d_M_sumNow_6 : decode c_M_sumNow 6 = .ok (.iload 6, 2) := by decide +kernel
theorem d_M_sumNow_8 : decode c_M_sumNow 8 = .ok (.bipush 8, 2) := by decide +kernel
theorem d_M_sumNow_10 : decode c_M_sumNow 10 = .ok (.if_icmp .ge 28, 3) := by decide +kernel
theorem d_M_sumNow_13 : decode c_M_sumNow 13 = .ok (.lload 4, 2) := by decide +kernel
theorem d_M_sumNow_15 : decode c_M_sumNow 15 = .ok (.aload_n 0, 1) := by decide +kernel
theorem d_M_sumNow_16 : decode c_M_sumNow 16 = .ok (.iload_n 1, 1) := by decide +kernel
theorem d_M_sumNow_17 : decode c_M_sumNow 17 = .ok (.bipush 8, 2) := by decide +kernel
theorem d_M_sumNow_19 : decode c_M_sumNow 19 = .ok (.iload_n 1, 1) := by decide +kernel
theorem d_M_sumNow_20 : decode c_M_sumNow 20 = .ok (.imul, 1) := by decide +kernel
theorem d_M_sumNow_21 : decode c_M_sumNow 21 = .ok (.iload 6, 2) := by decide +kernel
theorem d_M_sumNow_23 : decode c_M_sumNow 23 = .ok (.iadd, 1) := by decide +kernel
theorem d_M_sumNow_24 : decode c_M_sumNow 24 = .ok (.iload_n 2, 1) := by decide +kernel
theorem d_M_sumNow_25 : decode c_M_sumNow 25 = .ok (.iload_n 3, 1) := by decide +kernel
theorem d_M_sumNow_26 : decode c_M_sumNow 26 = .ok (.invokevirtual 149, 3) := by decide +kernel
theorem d_M_sumNow_29 : decode c_M_sumNow 29 = .ok (.ladd, 1) := by decide +kernel
theorem d_M_sumNow_30 : decode c_M_sumNow 30 = .ok (.lstore 4, 2) := by decide +kernel
theorem d_M_sumNow_32 : decode c_M_sumNow 32 = .ok (.iinc 6 1, 3) := by decide +kernel
theorem d_M_sumNow_35 : decode c_M_sumNow 35 = .ok (.goto (-29), 3) := by decide +kernel
theorem d_M_sumNow_38 : decode c_M_sumNow 38 = .ok (.lload 4, 2) := by decide +kernel
theorem d_M_sumNow_40 : decode c_M_sumNow 40 = .ok (.lreturn, 1) := by decide +kernel
theorem d_M_sum_0 : decode c_M_sum 0 = .ok (.iload_n 1, 1) := by decide +kernel
theorem d_M_sum_1 : decode c_M_sum 1 = .ok (.invokestatic 78, 3) := by decide +kernel
theorem d_M_sum_4 : decode c_M_sum 4 = .ok (.ifCond .eq 28, 3) := by decide +kernel
theorem d_M_sum_7 : decode c_M_sum 7 = .ok (.iload_n 2, 1) := by decide +kernel
theorem d_M_sum_8 : decode c_M_sum 8 = .ok (.invokestatic 153, 3) := by decide +kernel
theorem d_M_sum_11 : decode c_M_sum 11 = .ok (.ifCond .eq 21, 3) := by decide +kernel
theorem d_M_sum_14 : decode c_M_sum 14 = .ok (.iload_n 3, 1) := by decide +kernel
theorem d_M_sum_15 : decode c_M_sum 15 = .ok (.iconst 0, 1) := by decide +kernel
theorem d_M_sum_16 : decode c_M_sum 16 = .ok (.iconst 1, 1) := by decide +kernel
theorem d_M_sum_17 : decode c_M_sum 17 = .ok (.invokestatic 74, 3) := by decide +kernel
theorem d_M_sum_20 : decode c_M_sum 20 = .ok (.ifCond .eq 12, 3) := by decide +kernel
theorem d_M_sum_23 : decode c_M_sum 23 = .ok (.aload_n 0, 1) := by decide +kernel
theorem d_M_sum_24 : decode c_M_sum 24 = .ok (.getfield 44, 3) := by decide +kernel
theorem d_M_sum_27 : decode c_M_sum 27 = .ok (.iload_n 1, 1) := by decide +kernel
theorem d_M_sum_28 : decode c_M_sum 28 = .ok (.baload, 1) := by decide +kernel
theorem d_M_sum_29 : decode c_M_sum 29 = .ok (.ifCond .ne 7, 3) := by decide +kernel
theorem d_M_sum_32 : decode c_M_sum 32 = .ok (.ldc2_w 156, 3) := by decide +kernel
theorem d_M_sum_35 : decode c_M_sum 35 = .ok (.lreturn, 1) := by decide +kernel
theorem d_M_sum_36 : decode c_M_sum 36 = .ok (.aload_n 0, 1) := by decide +kernel
theorem d_M_sum_37 : decode c_M_sum 37 = .ok (.iload_n 1, 1) := by decide +kernel
theorem d_M_sum_38 : decode c_M_sum 38 = .ok (.iload_n 2, 1) := by decide +kernel
theorem d_M_sum_39 : decode c_M_sum 39 = .ok (.iload_n 3, 1) := by decide +kernel
theorem d_M_sum_40 : decode c_M_sum 40 = .ok (.invokevirtual 158, 3) := by decide +kernel
theorem d_M_sum_43 : decode c_M_sum 43 = .ok (.lreturn, 1) := by decide +kernel
theorem d_M_countOf_0 : decode c_M_countOf 0 = .ok (.iconst 0, 1) := by decide +kernel
theorem d_M_countOf_1 : decode c_M_countOf 1 = .ok (.istore 5, 2) := by decide +kernel
theorem d_M_countOf_3 : decode c_M_countOf 3 = .ok (.iconst 0, 1) := by decide +kernel
theorem d_M_countOf_4 : decode c_M_countOf 4 = .ok (.istore 6, 2) := by decide +kernel
theorem d_M_countOf_6 : decode c_M_countOf 6 = .ok (.iload 6, 2) := by decide +kernel
theorem d_M_countOf_8 : decode c_M_countOf 8 = .ok (.aload_n 0, 1) := by decide +kernel
theorem d_M_countOf_9 : decode c_M_countOf 9 = .ok (.getfield 7, 3) := by decide +kernel
theorem d_M_countOf_12 : decode c_M_countOf 12 = .ok (.iload_n 2, 1) := by decide +kernel
theorem d_M_countOf_13 : decode c_M_countOf 13 = .ok (.iaload, 1) := by decide +kernel
theorem d_M_countOf_14 : decode c_M_countOf 14 = .ok (.if_icmp .ge 50, 3) := by decide +kernel
theorem d_M_countOf_17 : decode c_M_countOf 17 = .ok (.iload 5, 2) := by decide +kernel
theorem d_M_countOf_19 : decode c_M_countOf 19 = .ok (.aload_n 0, 1) := by decide +kernel
theorem d_M_countOf_20 : decode c_M_countOf 20 = .ok (.getfield 22, 3) := by decide +kernel
theorem d_M_countOf_23 : decode c_M_countOf 23 = .ok (.bipush 12, 2) := by decide +kernel
theorem d_M_countOf_25 : decode c_M_countOf 25 = .ok (.iload_n 2, 1) := by decide +kernel
theorem d_M_countOf_26 : decode c_M_countOf 26 = .ok (.imul, 1) := by decide +kernel
theorem d_M_countOf_27 : decode c_M_countOf 27 = .ok (.iload 6, 2) := by decide +kernel
theorem d_M_countOf_29 : decode c_M_countOf 29 = .ok (.iadd, 1) := by decide +kernel
theorem d_M_countOf_30 : decode c_M_countOf 30 = .ok (.baload, 1) := by decide +kernel
theorem d_M_countOf_31 : decode c_M_countOf 31 = .ok (.ifCond .eq 23, 3) := by decide +kernel
theorem d_M_countOf_34 : decode c_M_countOf 34 = .ok (.aload_n 0, 1) := by decide +kernel
theorem d_M_countOf_35 : decode c_M_countOf 35 = .ok (.getfield 19, 3) := by decide +kernel
theorem d_M_countOf_38 : decode c_M_countOf 38 = .ok (.bipush 12, 2) := by decide +kernel
theorem d_M_countOf_40 : decode c_M_countOf 40 = .ok (.iload_n 2, 1) := by decide +kernel
theorem d_M_countOf_41 : decode c_M_countOf 41 = .ok (.imul, 1) := by decide +kernel
theorem d_M_countOf_42 : decode c_M_countOf 42 = .ok (.iload 6, 2) := by decide +kernel
theorem d_M_countOf_44 : decode c_M_countOf 44 = .ok (.iadd, 1) := by decide +kernel
theorem d_M_countOf_45 : decode c_M_countOf 45 = .ok (.iaload, 1) := by decide +kernel
theorem d_M_countOf_46 : decode c_M_countOf 46 = .ok (.iload_n 3, 1) := by decide +kernel
theorem d_M_countOf_47 : decode c_M_countOf 47 = .ok (.if_icmp .lt 7, 3) := by decide +kernel
theorem d_M_countOf_50 : decode c_M_countOf 50 = .ok (.iconst 1, 1) := by decide +kernel
theorem d_M_countOf_51 : decode c_M_countOf 51 = .ok (.goto 4, 3) := by decide +kernel
theorem d_M_countOf_54 : decode c_M_countOf 54 = .ok (.iconst 0, 1) := by decide +kernel
theorem d_M_countOf_55 : decode c_M_countOf 55 = .ok (.iadd, 1) := by decide +kernel
theorem d_M_countOf_56 : decode c_M_countOf 56 = .ok (.istore 5, 2) := by decide +kernel
theorem d_M_countOf_58 : decode c_M_countOf 58 = .ok (.iinc 6 1, 3) := by decide +kernel
theorem d_M_countOf_61 : decode c_M_countOf 61 = .ok (.goto (-55), 3) := by decide +kernel
theorem d_M_countOf_64 : decode c_M_countOf 64 = .ok (.aload_n 0, 1) := by decide +kernel
theorem d_M_countOf_65 : decode c_M_countOf 65 = .ok (.iload_n 2, 1) := by decide +kernel
theorem d_M_countOf_66 : decode c_M_countOf 66 = .ok (.invokevirtual 116, 3) := by decide +kernel
theorem d_M_countOf_69 : decode c_M_countOf 69 = .ok (.istore 6, 2) := by decide +kernel
theorem d_M_countOf_71 : decode c_M_countOf 71 = .ok (.iload 6, 2) := by decide +kernel
theorem d_M_countOf_73 : decode c_M_countOf 73 = .ok (.ifCond .eq 13, 3) := by decide +kernel
theorem d_M_countOf_76 : decode c_M_countOf 76 = .ok (.aload_n 0, 1) := by decide +kernel
theorem d_M_countOf_77 : decode c_M_countOf 77 = .ok (.iload_n 1, 1) := by decide +kernel
theorem d_M_countOf_78 : decode c_M_countOf 78 = .ok (.iload_n 2, 1) := by decide +kernel
theorem d_M_countOf_79 : decode c_M_countOf 79 = .ok (.invokevirtual 140, 3) := by decide +kernel
theorem d_M_countOf_82 : decode c_M_countOf 82 = .ok (.iload_n 3, 1) := by decide +kernel
theorem d_M_countOf_83 : decode c_M_countOf 83 = .ok (.if_icmp .ge 6, 3) := by decide +kernel
theorem d_M_countOf_86 : decode c_M_countOf 86 = .ok (.iload 5, 2) := by decide +kernel
theorem d_M_countOf_88 : decode c_M_countOf 88 = .ok (.ireturn, 1) := by decide +kernel
theorem d_M_countOf_89 : decode c_M_countOf 89 = .ok (.aload_n 0, 1) := by decide +kernel
theorem d_M_countOf_90 : decode c_M_countOf 90 = .ok (.iload_n 1, 1) := by decide +kernel
theorem d_M_countOf_91 : decode c_M_countOf 91 = .ok (.iload_n 2, 1) := by decide +kernel
theorem d_M_countOf_92 : decode c_M_countOf 92 = .ok (.invokevirtual 133, 3) := by decide +kernel
theorem d_M_countOf_95 : decode c_M_countOf 95 = .ok (.iload_n 3, 1) := by decide +kernel
theorem d_M_countOf_96 : decode c_M_countOf 96 = .ok (.if_icmp .lt 9, 3) := by decide +kernel
theorem d_M_countOf_99 : decode c_M_countOf 99 = .ok (.iload 5, 2) := by decide +kernel
theorem d_M_countOf_101 : decode c_M_countOf 101 = .ok (.iload 6, 2) := by decide +kernel
theorem d_M_countOf_103 : decode c_M_countOf 103 = .ok (.iadd, 1) := by decide +kernel
theorem d_M_countOf_104 : decode c_M_countOf 104 = .ok (.ireturn, 1) := by decide +kernel
theorem d_M_countOf_105 : decode c_M_countOf 105 = .ok (.iload 4, 2) := by decide +kernel
theorem d_M_countOf_107 : decode c_M_countOf 107 = .ok (.ifCond .ne 23, 3) := by decide +kernel
theorem d_M_countOf_110 : decode c_M_countOf 110 = .ok (.iload 5, 2) := by decide +kernel
theorem d_M_countOf_112 : decode c_M_countOf 112 = .ok (.aload_n 0, 1) := by decide +kernel
theorem d_M_countOf_113 : decode c_M_countOf 113 = .ok (.iload_n 1, 1) := by decide +kernel
theorem d_M_countOf_114 : decode c_M_countOf 114 = .ok (.iload_n 2, 1) := by decide +kernel
theorem d_M_countOf_115 : decode c_M_countOf 115 = .ok (.invokevirtual 146, 3) := by decide +kernel
theorem d_M_countOf_118 : decode c_M_countOf 118 = .ok (.ifCond .eq 7, 3) := by decide +kernel
theorem d_M_countOf_121 : decode c_M_countOf 121 = .ok (.iconst 1, 1) := by decide +kernel
theorem d_M_countOf_122 : decode c_M_countOf 122 = .ok (.goto 4, 3) := by decide +kernel
theorem d_M_countOf_125 : decode c_M_countOf 125 = .ok (.iconst 0, 1) := by decide +kernel
theorem d_M_countOf_126 : decode c_M_countOf 126 = .ok (.iadd, 1) := by decide +kernel
theorem d_M_countOf_127 : decode c_M_countOf 127 = .ok (.goto 23, 3) := by decide +kernel
theorem d_M_countOf_130 : decode c_M_countOf 130 = .ok (.iload 5, 2) := by decide +kernel
theorem d_M_countOf_132 : decode c_M_countOf 132 = .ok (.iload 6, 2) := by decide +kernel
theorem d_M_countOf_134 : decode c_M_countOf 134 = .ok (.iadd, 1) := by decide +kernel
theorem d_M_countOf_135 : decode c_M_countOf 135 = .ok (.aload_n 0, 1) := by decide +kernel
theorem d_M_countOf_136 : decode c_M_countOf 136 = .ok (.iload_n 1, 1) := by decide +kernel
theorem d_M_countOf_137 : decode c_M_countOf 137 = .ok (.iload_n 2, 1) := by decide +kernel
theorem d_M_countOf_138 : decode c_M_countOf 138 = .ok (.invokevirtual 143, 3) := by decide +kernel
theorem d_M_countOf_141 : decode c_M_countOf 141 = .ok (.ifCond .eq 7, 3) := by decide +kernel
theorem d_M_countOf_144 : decode c_M_countOf 144 = .ok (.iconst 1, 1) := by decide +kernel
theorem d_M_countOf_145 : decode c_M_countOf 145 = .ok (.goto 4, 3) := by decide +kernel
theorem d_M_countOf_148 : decode c_M_countOf 148 = .ok (.iconst 0, 1) := by decide +kernel
theorem d_M_countOf_149 : decode c_M_countOf 149 = .ok (.isub, 1) := by decide +kernel
theorem d_M_countOf_150 : decode c_M_countOf 150 = .ok (.ireturn, 1) := by decide +kernel
theorem d_M_count_0 : decode c_M_count 0 = .ok (.iload_n 1, 1) := by decide +kernel
theorem d_M_count_1 : decode c_M_count 1 = .ok (.invokestatic 78, 3) := by decide +kernel
theorem d_M_count_4 : decode c_M_count 4 = .ok (.ifCond .eq 12, 3) := by decide +kernel
theorem d_M_count_7 : decode c_M_count 7 = .ok (.iload_n 3, 1) := by decide +kernel
theorem d_M_count_8 : decode c_M_count 8 = .ok (.iconst 0, 1) := by decide +kernel
theorem d_M_count_9 : decode c_M_count 9 = .ok (.iconst 1, 1) := by decide +kernel
theorem d_M_count_10 : decode c_M_count 10 = .ok (.invokestatic 74, 3) := by decide +kernel
theorem d_M_count_13 : decode c_M_count 13 = .ok (.ifCond .ne 6, 3) := by decide +kernel
theorem d_M_count_16 : decode c_M_count 16 = .ok (.bipush (-2), 2) := by decide +kernel
theorem d_M_count_18 : decode c_M_count 18 = .ok (.ireturn, 1) := by decide +kernel
theorem d_M_count_19 : decode c_M_count 19 = .ok (.aload_n 0, 1) := by decide +kernel
theorem d_M_count_20 : decode c_M_count 20 = .ok (.getfield 44, 3) := by decide +kernel
theorem d_M_count_23 : decode c_M_count 23 = .ok (.iload_n 1, 1) := by decide +kernel
theorem d_M_count_24 : decode c_M_count 24 = .ok (.baload, 1) := by decide +kernel
theorem d_M_count_25 : decode c_M_count 25 = .ok (.ifCond .ne 6, 3) := by decide +kernel
theorem d_M_count_28 : decode c_M_count 28 = .ok (.bipush (-3), 2) := by decide +kernel
theorem d_M_count_30 : decode c_M_count 30 = .ok (.ireturn, 1) := by decide +kernel
theorem d_M_count_31 : decode c_M_count 31 = .ok (.iconst 0, 1) := by decide +kernel
theorem d_M_count_32 : decode c_M_count 32 = .ok (.istore 4, 2) := by decide +kernel
theorem d_M_count_34 : decode c_M_count 34 = .ok (.iconst 0, 1) := by decide +kernel
theorem d_M_count_35 : decode c_M_count 35 = .ok (.istore 5, 2) := by decide +kernel
theorem d_M_count_37 : decode c_M_count 37 = .ok (.iload 5, 2) := by decide +kernel
theorem d_M_count_39 : decode c_M_count 39 = .ok (.bipush 8, 2) := by decide +kernel
theorem d_M_count_41 : decode c_M_count 41 = .ok (.if_icmp .ge 28, 3) := by decide +kernel
theorem d_M_count_44 : decode c_M_count 44 = .ok (.iload 4, 2) := by decide +kernel
theorem d_M_count_46 : decode c_M_count 46 = .ok (.aload_n 0, 1) := by decide +kernel
theorem d_M_count_47 : decode c_M_count 47 = .ok (.iload_n 1, 1) := by decide +kernel
theorem d_M_count_48 : decode c_M_count 48 = .ok (.bipush 8, 2) := by decide +kernel
theorem d_M_count_50 : decode c_M_count 50 = .ok (.iload_n 1, 1) := by decide +kernel
theorem d_M_count_51 : decode c_M_count 51 = .ok (.imul, 1) := by decide +kernel
theorem d_M_count_52 : decode c_M_count 52 = .ok (.iload 5, 2) := by decide +kernel
theorem d_M_count_54 : decode c_M_count 54 = .ok (.iadd, 1) := by decide +kernel
theorem d_M_count_55 : decode c_M_count 55 = .ok (.iload_n 2, 1) := by decide +kernel
theorem d_M_count_56 : decode c_M_count 56 = .ok (.iload_n 3, 1) := by decide +kernel
theorem d_M_count_57 : decode c_M_count 57 = .ok (.invokevirtual 162, 3) := by decide +kernel
theorem d_M_count_60 : decode c_M_count 60 = .ok (.iadd, 1) := by decide +kernel
theorem d_M_count_61 : decode c_M_count 61 = .ok (.istore 4, 2) := by decide +kernel
theorem d_M_count_63 : decode c_M_count 63 = .ok (.iinc 5 1, 3) := by decide +kernel
theorem d_M_count_66 : decode c_M_count 66 = .ok (.goto (-29), 3) := by decide +kernel
theorem d_M_count_69 : decode c_M_count 69 = .ok (.iload 4, 2) := by decide +kernel
theorem d_M_count_71 : decode c_M_count 71 = .ok (.ireturn, 1) := by decide +kernel
theorem d_M_pairs_0 : decode c_M_pairs 0 = .ok (.iconst 0, 1) := by decide +kernel
theorem d_M_pairs_1 : decode c_M_pairs 1 = .ok (.istore_n 3, 1) := by decide +kernel
theorem d_M_pairs_2 : decode c_M_pairs 2 = .ok (.iconst 0, 1) := by decide +kernel
theorem d_M_pairs_3 : decode c_M_pairs 3 = .ok (.istore 4, 2) := by decide +kernel
theorem d_M_pairs_5 : decode c_M_pairs 5 = .ok (.iload 4, 2) := by decide +kernel
theorem d_M_pairs_7 : decode c_M_pairs 7 = .ok (.bipush 96, 2) := by decide +kernel
theorem d_M_pairs_9 : decode c_M_pairs 9 = .ok (.if_icmp .ge 83, 3) := by decide +kernel
theorem d_M_pairs_12 : decode c_M_pairs 12 = .ok (.aload_n 0, 1) := by decide +kernel
theorem d_M_pairs_13 : decode c_M_pairs 13 = .ok (.iload 4, 2) := by decide +kernel
theorem d_M_pairs_15 : decode c_M_pairs 15 = .ok (.invokevirtual 166, 3) := by decide +kernel
theorem d_M_pairs_18 : decode c_M_pairs 18 = .ok (.ifCond .eq 68, 3) := by decide +kernel
theorem d_M_pairs_21 : decode c_M_pairs 21 = .ok (.aload_n 0, 1) := by decide +kernel
theorem d_M_pairs_22 : decode c_M_pairs 22 = .ok (.getfield 13, 3) := by decide +kernel
theorem d_M_pairs_25 : decode c_M_pairs 25 = .ok (.iload 4, 2) := by decide +kernel
theorem d_M_pairs_27 : decode c_M_pairs 27 = .ok (.iaload, 1) := by decide +kernel
theorem d_M_pairs_28 : decode c_M_pairs 28 = .ok (.iload_n 1, 1) := by decide +kernel
theorem d_M_pairs_29 : decode c_M_pairs 29 = .ok (.irem, 1) := by decide +kernel
theorem d_M_pairs_30 : decode c_M_pairs 30 = .ok (.iload_n 2, 1) := by decide +kernel
theorem d_M_pairs_31 : decode c_M_pairs 31 = .ok (.if_icmp .ne 55, 3) := by decide +kernel
theorem d_M_pairs_34 : decode c_M_pairs 34 = .ok (.bipush 96, 2) := by decide +kernel
theorem d_M_pairs_36 : decode c_M_pairs 36 = .ok (.istore 5, 2) := by decide +kernel
theorem d_M_pairs_38 : decode c_M_pairs 38 = .ok (.iload 5, 2) := by decide +kernel
theorem d_M_pairs_40 : decode c_M_pairs 40 = .ok (.sipush 192, 3) := by decide +kernel
theorem d_M_pairs_43 : decode c_M_pairs 43 = .ok (.if_icmp .ge 43, 3) := by decide +kernel
theorem d_M_pairs_46 : decode c_M_pairs 46 = .ok (.iload_n 3, 1) := by decide +kernel
theorem d_M_pairs_47 : decode c_M_pairs 47 = .ok (.aload_n 0, 1) := by decide +kernel
theorem d_M_pairs_48 : decode c_M_pairs 48 = .ok (.iload 5, 2) := by decide +kernel
theorem d_M_pairs_50 : decode c_M_pairs 50 = .ok (.invokevirtual 166, 3) := by decide +kernel
theorem d_M_pairs_53 : decode c_M_pairs 53 = .ok (.ifCond .eq 24, 3) := by decide +kernel
theorem d_M_pairs_56 : decode c_M_pairs 56 = .ok (.aload_n 0, 1) := by decide +kernel
theorem d_M_pairs_57 : decode c_M_pairs 57 = .ok (.getfield 13, 3) := by decide +kernel
theorem d_M_pairs_60 : decode c_M_pairs 60 = .ok (.iload 5, 2) := by decide +kernel
theorem d_M_pairs_62 : decode c_M_pairs 62 = .ok (.iaload, 1) := by decide +kernel
theorem d_M_pairs_63 : decode c_M_pairs 63 = .ok (.aload_n 0, 1) := by decide +kernel
theorem d_M_pairs_64 : decode c_M_pairs 64 = .ok (.getfield 13, 3) := by decide +kernel
theorem d_M_pairs_67 : decode c_M_pairs 67 = .ok (.iload 4, 2) := by decide +kernel
theorem d_M_pairs_69 : decode c_M_pairs 69 = .ok (.iaload, 1) := by decide +kernel
theorem d_M_pairs_70 : decode c_M_pairs 70 = .ok (.if_icmp .ne 7, 3) := by decide +kernel
theorem d_M_pairs_73 : decode c_M_pairs 73 = .ok (.iconst 1, 1) := by decide +kernel
theorem d_M_pairs_74 : decode c_M_pairs 74 = .ok (.goto 4, 3) := by decide +kernel
theorem d_M_pairs_77 : decode c_M_pairs 77 = .ok (.iconst 0, 1) := by decide +kernel
theorem d_M_pairs_78 : decode c_M_pairs 78 = .ok (.iadd, 1) := by decide +kernel
theorem d_M_pairs_79 : decode c_M_pairs 79 = .ok (.istore_n 3, 1) := by decide +kernel
theorem d_M_pairs_80 : decode c_M_pairs 80 = .ok (.iinc 5 1, 3) := by decide +kernel
theorem d_M_pairs_83 : decode c_M_pairs 83 = .ok (.goto (-45), 3) := by decide +kernel
theorem d_M_pairs_86 : decode c_M_pairs 86 = .ok (.iinc 4 1, 3) := by decide +kernel
theorem d_M_pairs_89 : decode c_M_pairs 89 = .ok (.goto (-84), 3) := by decide +kernel
theorem d_M_pairs_92 : decode c_M_pairs 92 = .ok (.iload_n 3, 1) := by decide +kernel
theorem d_M_pairs_93 : decode c_M_pairs 93 = .ok (.ireturn, 1) := by decide +kernel
theorem d_M_isKnownAt_0 : decode c_M_isKnownAt 0 = .ok (.iload_n 1, 1) := by decide +kernel
theorem d_M_isKnownAt_1 : decode c_M_isKnownAt 1 = .ok (.bipush 12, 2) := by decide +kernel
theorem d_M_isKnownAt_3 : decode c_M_isKnownAt 3 = .ok (.irem, 1) := by decide +kernel
theorem d_M_isKnownAt_4 : decode c_M_isKnownAt 4 = .ok (.aload_n 0, 1) := by decide +kernel
theorem d_M_isKnownAt_5 : decode c_M_isKnownAt 5 = .ok (.getfield 7, 3) := by decide +kernel
theorem d_M_isKnownAt_8 : decode c_M_isKnownAt 8 = .ok (.iload_n 1, 1) := by decide +kernel
theorem d_M_isKnownAt_9 : decode c_M_isKnownAt 9 = .ok (.bipush 12, 2) := by decide +kernel
theorem d_M_isKnownAt_11 : decode c_M_isKnownAt 11 = .ok (.idiv, 1) := by decide +kernel
theorem d_M_isKnownAt_12 : decode c_M_isKnownAt 12 = .ok (.iaload, 1) := by decide +kernel
theorem d_M_isKnownAt_13 : decode c_M_isKnownAt 13 = .ok (.if_icmp .ge 16, 3) := by decide +kernel
theorem d_M_isKnownAt_16 : decode c_M_isKnownAt 16 = .ok (.aload_n 0, 1) := by decide +kernel
theorem d_M_isKnownAt_17 : decode c_M_isKnownAt 17 = .ok (.getfield 22, 3) := by decide +kernel
theorem d_M_isKnownAt_20 : decode c_M_isKnownAt 20 = .ok (.iload_n 1, 1) := by decide +kernel
theorem d_M_isKnownAt_21 : decode c_M_isKnownAt 21 = .ok (.baload, 1) := by decide +kernel
theorem d_M_isKnownAt_22 : decode c_M_isKnownAt 22 = .ok (.ifCond .eq 7, 3) := by decide +kernel
theorem d_M_isKnownAt_25 : decode c_M_isKnownAt 25 = .ok (.iconst 1, 1) := by decide +kernel
theorem d_M_isKnownAt_26 : decode c_M_isKnownAt 26 = .ok (.goto 4, 3) := by decide +kernel
theorem d_M_isKnownAt_29 : decode c_M_isKnownAt 29 = .ok (.iconst 0, 1) := by decide +kernel
theorem d_M_isKnownAt_30 : decode c_M_isKnownAt 30 = .ok (.ireturn, 1) := by decide +kernel
theorem d_M_join_0 : decode c_M_join 0 = .ok (.iload_n 1, 1) := by decide +kernel
theorem d_M_join_1 : decode c_M_join 1 = .ok (.iconst 0, 1) := by decide +kernel
theorem d_M_join_2 : decode c_M_join 2 = .ok (.iconst 1, 1) := by decide +kernel
theorem d_M_join_3 : decode c_M_join 3 = .ok (.invokestatic 74, 3) := by decide +kernel
theorem d_M_join_6 : decode c_M_join 6 = .ok (.ifCond .ne 6, 3) := by decide +kernel
theorem d_M_join_9 : decode c_M_join 9 = .ok (.bipush (-2), 2) := by decide +kernel
theorem d_M_join_11 : decode c_M_join 11 = .ok (.ireturn, 1) := by decide +kernel
theorem d_M_join_12 : decode c_M_join 12 = .ok (.aload_n 0, 1) := by decide +kernel
theorem d_M_join_13 : decode c_M_join 13 = .ok (.getfield 44, 3) := by decide +kernel
theorem d_M_join_16 : decode c_M_join 16 = .ok (.iconst 0, 1) := by decide +kernel
theorem d_M_join_17 : decode c_M_join 17 = .ok (.baload, 1) := by decide +kernel
theorem d_M_join_18 : decode c_M_join 18 = .ok (.ifCond .eq 12, 3) := by decide +kernel
theorem d_M_join_21 : decode c_M_join 21 = .ok (.aload_n 0, 1) := by decide +kernel
theorem d_M_join_22 : decode c_M_join 22 = .ok (.getfield 44, 3) := by decide +kernel
theorem d_M_join_25 : decode c_M_join 25 = .ok (.iconst 1, 1) := by decide +kernel
theorem d_M_join_26 : decode c_M_join 26 = .ok (.baload, 1) := by decide +kernel
theorem d_M_join_27 : decode c_M_join 27 = .ok (.ifCond .ne 6, 3) := by decide +kernel
theorem d_M_join_30 : decode c_M_join 30 = .ok (.bipush (-3), 2) := by decide +kernel
theorem d_M_join_32 : decode c_M_join 32 = .ok (.ireturn, 1) := by decide +kernel
theorem d_M_join_33 : decode c_M_join 33 = .ok (.aload_n 0, 1) := by decide +kernel
theorem d_M_join_34 : decode c_M_join 34 = .ok (.iconst 0, 1) := by decide +kernel
theorem d_M_join_35 : decode c_M_join 35 = .ok (.invokevirtual 110, 3) := by decide +kernel
theorem d_M_join_38 : decode c_M_join 38 = .ok (.istore_n 2, 1) := by decide +kernel
theorem d_M_join_39 : decode c_M_join 39 = .ok (.aload_n 0, 1) := by decide +kernel
theorem d_M_join_40 : decode c_M_join 40 = .ok (.iconst 1, 1) := by decide +kernel
theorem d_M_join_41 : decode c_M_join 41 = .ok (.invokevirtual 110, 3) := by decide +kernel
theorem d_M_join_44 : decode c_M_join 44 = .ok (.istore_n 3, 1) := by decide +kernel
theorem d_M_join_45 : decode c_M_join 45 = .ok (.aload_n 0, 1) := by decide +kernel
theorem d_M_join_46 : decode c_M_join 46 = .ok (.iconst 0, 1) := by decide +kernel
theorem d_M_join_47 : decode c_M_join 47 = .ok (.invokevirtual 113, 3) := by decide +kernel
theorem d_M_join_50 : decode c_M_join 50 = .ok (.iload_n 2, 1) := by decide +kernel
theorem d_M_join_51 : decode c_M_join 51 = .ok (.isub, 1) := by decide +kernel
theorem d_M_join_52 : decode c_M_join 52 = .ok (.aload_n 0, 1) := by decide +kernel
theorem d_M_join_53 : decode c_M_join 53 = .ok (.iconst 1, 1) := by decide +kernel
theorem d_M_join_54 : decode c_M_join 54 = .ok (.invokevirtual 113, 3) := by decide +kernel
theorem d_M_join_57 : decode c_M_join 57 = .ok (.imul, 1) := by decide +kernel
theorem d_M_join_58 : decode c_M_join 58 = .ok (.iload_n 2, 1) := by decide +kernel
theorem d_M_join_59 : decode c_M_join 59 = .ok (.aload_n 0, 1) := by decide +kernel
theorem d_M_join_60 : decode c_M_join 60 = .ok (.iconst 1, 1) := by decide +kernel
theorem d_M_join_61 : decode c_M_join 61 = .ok (.invokevirtual 113, 3) := by decide +kernel
theorem d_M_join_64 : decode c_M_join 64 = .ok (.iload_n 3, 1) := by decide +kernel
theorem d_M_join_65 : decode c_M_join 65 = .ok (.isub, 1) := by decide +kernel
theorem d_M_join_66 : decode c_M_join 66 = .ok (.imul, 1) := by decide +kernel
theorem d_M_join_67 : decode c_M_join 67 = .ok (.iadd, 1) := by decide +kernel
theorem d_M_join_68 : decode c_M_join 68 = .ok (.istore 4, 2) := by decide +kernel
theorem d_M_join_70 : decode c_M_join 70 = .ok (.aload_n 0, 1) := by decide +kernel
theorem d_M_join_71 : decode c_M_join 71 = .ok (.iconst 1, 1) := by decide +kernel
theorem d_M_join_72 : decode c_M_join 72 = .ok (.iconst 0, 1) := by decide +kernel
theorem d_M_join_73 : decode c_M_join 73 = .ok (.invokevirtual 169, 3) := by decide +kernel
theorem d_M_join_76 : decode c_M_join 76 = .ok (.iload_n 1, 1) := by decide +kernel
theorem d_M_join_77 : decode c_M_join 77 = .ok (.ifCond .ne 7, 3) := by decide +kernel
theorem d_M_join_80 : decode c_M_join 80 = .ok (.iconst 0, 1) := by decide +kernel
theorem d_M_join_81 : decode c_M_join 81 = .ok (.goto 5, 3) := by decide +kernel
theorem d_M_join_84 : decode c_M_join 84 = .ok (.iload 4, 2) := by decide +kernel
theorem d_M_join_86 : decode c_M_join 86 = .ok (.iadd, 1) := by decide +kernel
theorem d_M_join_87 : decode c_M_join 87 = .ok (.ireturn, 1) := by decide +kernel
theorem d_M_hasKeyed_0 : decode c_M_hasKeyed 0 = .ok (.iconst 4, 1) := by decide +kernel
theorem d_M_hasKeyed_1 : decode c_M_hasKeyed 1 = .ok (.iload_n 1, 1) := by decide +kernel
theorem d_M_hasKeyed_2 : decode c_M_hasKeyed 2 = .ok (.imul, 1) := by decide +kernel
theorem d_M_hasKeyed_3 : decode c_M_hasKeyed 3 = .ok (.istore 4, 2) := by decide +kernel
theorem d_M_hasKeyed_5 : decode c_M_hasKeyed 5 = .ok (.iload 4, 2) := by decide +kernel
theorem d_M_hasKeyed_7 : decode c_M_hasKeyed 7 = .ok (.iconst 4, 1) := by decide +kernel
theorem d_M_hasKeyed_8 : decode c_M_hasKeyed 8 = .ok (.iload_n 1, 1) := by decide +kernel
theorem d_M_hasKeyed_9 : decode c_M_hasKeyed 9 = .ok (.imul, 1) := by decide +kernel
theorem d_M_hasKeyed_10 : decode c_M_hasKeyed 10 = .ok (.aload_n 0, 1) := by decide +kernel
theorem d_M_hasKeyed_11 : decode c_M_hasKeyed 11 = .ok (.getfield 47, 3) := by decide +kernel
theorem d_M_hasKeyed_14 : decode c_M_hasKeyed 14 = .ok (.iload_n 1, 1) := by decide +kernel
theorem d_M_hasKeyed_15 : decode c_M_hasKeyed 15 = .ok (.iaload, 1) := by decide +kernel
theorem d_M_hasKeyed_16 : decode c_M_hasKeyed 16 = .ok (.iadd, 1) := by decide +kernel
theorem d_M_hasKeyed_17 : decode c_M_hasKeyed 17 = .ok (.if_icmp .ge 44, 3) := by decide +kernel
theorem d_M_hasKeyed_20 : decode c_M_hasKeyed 20 = .ok (.aload_n 0, 1) := by decide +kernel
theorem d_M_hasKeyed_21 : decode c_M_hasKeyed 21 = .ok (.getfield 50, 3) := by decide +kernel
theorem d_M_hasKeyed_24 : decode c_M_hasKeyed 24 = .ok (.iload 4, 2) := by decide +kernel
theorem d_M_hasKeyed_26 : decode c_M_hasKeyed 26 = .ok (.iaload, 1) := by decide +kernel
theorem d_M_hasKeyed_27 : decode c_M_hasKeyed 27 = .ok (.iconst 2, 1) := by decide +kernel
theorem d_M_hasKeyed_28 : decode c_M_hasKeyed 28 = .ok (.if_icmp .ne 27, 3) := by decide +kernel
theorem d_M_hasKeyed_31 : decode c_M_hasKeyed 31 = .ok (.aload_n 0, 1) := by decide +kernel
theorem d_M_hasKeyed_32 : decode c_M_hasKeyed 32 = .ok (.getfield 53, 3) := by decide +kernel
theorem d_M_hasKeyed_35 : decode c_M_hasKeyed 35 = .ok (.iload 4, 2) := by decide +kernel
theorem d_M_hasKeyed_37 : decode c_M_hasKeyed 37 = .ok (.iaload, 1) := by decide +kernel
theorem d_M_hasKeyed_38 : decode c_M_hasKeyed 38 = .ok (.iload_n 2, 1) := by decide +kernel
theorem d_M_hasKeyed_39 : decode c_M_hasKeyed 39 = .ok (.if_icmp .ne 16, 3) := by decide +kernel
theorem d_M_hasKeyed_42 : decode c_M_hasKeyed 42 = .ok (.aload_n 0, 1) := by decide +kernel
theorem d_M_hasKeyed_43 : decode c_M_hasKeyed 43 = .ok (.getfield 56, 3) := by decide +kernel
theorem d_M_hasKeyed_46 : decode c_M_hasKeyed 46 = .ok (.iload 4, 2) := by decide +kernel
theorem d_M_hasKeyed_48 : decode c_M_hasKeyed 48 = .ok (.iaload, 1) := by decide +kernel
theorem d_M_hasKeyed_49 : decode c_M_hasKeyed 49 = .ok (.iload_n 3, 1) := by decide +kernel
theorem d_M_hasKeyed_50 : decode c_M_hasKeyed 50 = .ok (.if_icmp .ne 5, 3) := by decide +kernel
theorem d_M_hasKeyed_53 : decode c_M_hasKeyed 53 = .ok (.iconst 1, 1) := by decide +kernel
theorem d_M_hasKeyed_54 : decode c_M_hasKeyed 54 = .ok (.ireturn, 1) := by decide +kernel
theorem d_M_hasKeyed_55 : decode c_M_hasKeyed 55 = .ok (.iinc 4 1, 3) := by decide +kernel
theorem d_M_hasKeyed_58 : decode c_M_hasKeyed 58 = .ok (.goto (-53), 3) := by decide +kernel
theorem d_M_hasKeyed_61 : decode c_M_hasKeyed 61 = .ok (.iconst 0, 1) := by decide +kernel
theorem d_M_hasKeyed_62 : decode c_M_hasKeyed 62 = .ok (.ireturn, 1) := by decide +kernel
theorem d_M_part_0 : decode c_M_part 0 = .ok (.iload_n 1, 1) := by decide +kernel
theorem d_M_part_1 : decode c_M_part 1 = .ok (.iconst 1, 1) := by decide +kernel
theorem d_M_part_2 : decode c_M_part 2 = .ok (.bipush 100, 2) := by decide +kernel
theorem d_M_part_4 : decode c_M_part 4 = .ok (.invokestatic 74, 3) := by decide +kernel
theorem d_M_part_7 : decode c_M_part 7 = .ok (.ifCond .eq 14, 3) := by decide +kernel
theorem d_M_part_10 : decode c_M_part 10 = .ok (.iload_n 2, 1) := by decide +kernel
theorem d_M_part_11 : decode c_M_part 11 = .ok (.iconst 0, 1) := by decide +kernel
theorem d_M_part_12 : decode c_M_part 12 = .ok (.iload_n 1, 1) := by decide +kernel
theorem d_M_part_13 : decode c_M_part 13 = .ok (.iconst 1, 1) := by decide +kernel
theorem d_M_part_14 : decode c_M_part 14 = .ok (.isub, 1) := by decide +kernel
theorem d_M_part_15 : decode c_M_part 15 = .ok (.invokestatic 74, 3) := by decide +kernel
theorem d_M_part_18 : decode c_M_part 18 = .ok (.ifCond .ne 6, 3) := by decide +kernel
theorem d_M_part_21 : decode c_M_part 21 = .ok (.bipush (-2), 2) := by decide +kernel
theorem d_M_part_23 : decode c_M_part 23 = .ok (.ireturn, 1) := by decide +kernel
theorem d_M_part_24 : decode c_M_part 24 = .ok (.aload_n 0, 1) := by decide +kernel
theorem d_M_part_25 : decode c_M_part 25 = .ok (.getfield 44, 3) := by decide +kernel
theorem d_M_part_28 : decode c_M_part 28 = .ok (.iconst 0, 1) := by decide +kernel
theorem d_M_part_29 : decode c_M_part 29 = .ok (.baload, 1) := by decide +kernel
theorem d_M_part_30 : decode c_M_part 30 = .ok (.ifCond .eq 12, 3) := by decide +kernel
theorem d_M_part_33 : decode c_M_part 33 = .ok (.aload_n 0, 1) := by decide +kernel
theorem d_M_part_34 : decode c_M_part 34 = .ok (.getfield 44, 3) := by decide +kernel
theorem d_M_part_37 : decode c_M_part 37 = .ok (.iconst 1, 1) := by decide +kernel
theorem d_M_part_38 : decode c_M_part 38 = .ok (.baload, 1) := by decide +kernel
theorem d_M_part_39 : decode c_M_part 39 = .ok (.ifCond .ne 6, 3) := by decide +kernel
theorem d_M_part_42 : decode c_M_part 42 = .ok (.bipush (-3), 2) := by decide +kernel
theorem d_M_part_44 : decode c_M_part 44 = .ok (.ireturn, 1) := by decide +kernel
theorem d_M_part_45 : decode c_M_part 45 = .ok (.aload_n 0, 1) := by decide +kernel
theorem d_M_part_46 : decode c_M_part 46 = .ok (.iconst 0, 1) := by decide +kernel
theorem d_M_part_47 : decode c_M_part 47 = .ok (.iload_n 1, 1) := by decide +kernel
theorem d_M_part_48 : decode c_M_part 48 = .ok (.iload_n 2, 1) := by decide +kernel
theorem d_M_part_49 : decode c_M_part 49 = .ok (.invokevirtual 172, 3) := by decide +kernel
theorem d_M_part_52 : decode c_M_part 52 = .ok (.ifCond .eq 22, 3) := by decide +kernel
theorem d_M_part_55 : decode c_M_part 55 = .ok (.aload_n 0, 1) := by decide +kernel
theorem d_M_part_56 : decode c_M_part 56 = .ok (.iconst 1, 1) := by decide +kernel
theorem d_M_part_57 : decode c_M_part 57 = .ok (.iload_n 1, 1) := by decide +kernel
theorem d_M_part_58 : decode c_M_part 58 = .ok (.iload_n 2, 1) := by decide +kernel
theorem d_M_part_59 : decode c_M_part 59 = .ok (.invokevirtual 172, 3) := by decide +kernel
theorem d_M_part_62 : decode c_M_part 62 = .ok (.ifCond .eq 12, 3) := by decide +kernel
theorem d_M_part_65 : decode c_M_part 65 = .ok (.aload_n 0, 1) := by decide +kernel
theorem d_M_part_66 : decode c_M_part 66 = .ok (.iload_n 1, 1) := by decide +kernel
theorem d_M_part_67 : decode c_M_part 67 = .ok (.iload_n 2, 1) := by decide +kernel
theorem d_M_part_68 : decode c_M_part 68 = .ok (.invokevirtual 169, 3) := by decide +kernel
theorem d_M_part_71 : decode c_M_part 71 = .ok (.goto 5, 3) := by decide +kernel
theorem d_M_part_74 : decode c_M_part 74 = .ok (.bipush (-5), 2) := by decide +kernel
theorem d_M_part_76 : decode c_M_part 76 = .ok (.ireturn, 1) := by decide +kernel
theorem d_M_nextOf_0 : decode c_M_nextOf 0 = .ok (.iconst (-1), 1) := by decide +kernel
theorem d_M_nextOf_1 : decode c_M_nextOf 1 = .ok (.istore_n 3, 1) := by decide +kernel
theorem d_M_nextOf_2 : decode c_M_nextOf 2 = .ok (.lconst 0, 1) := by decide +kernel
theorem d_M_nextOf_3 : decode c_M_nextOf 3 = .ok (.lstore 4, 2) := by decide +kernel
theorem d_M_nextOf_5 : decode c_M_nextOf 5 = .ok (.iconst 0, 1) := by decide +kernel
theorem d_M_nextOf_6 : decode c_M_nextOf 6 = .ok (.istore 6, 2) := by decide +kernel
theorem d_M_nextOf_8 : decode c_M_nextOf 8 = .ok (.iload 6, 2) := by decide +kernel
theorem d_M_nextOf_10 : decode c_M_nextOf 10 = .ok (.bipush 8, 2) := by decide +kernel
theorem d_M_nextOf_12 : decode c_M_nextOf 12 = .ok (.if_icmp .ge 54, 3) := by decide +kernel
theorem d_M_nextOf_15 : decode c_M_nextOf 15 = .ok (.bipush 8, 2) := by decide +kernel
theorem d_M_nextOf_17 : decode c_M_nextOf 17 = .ok (.iload_n 1, 1) := by decide +kernel
theorem d_M_nextOf_18 : decode c_M_nextOf 18 = .ok (.imul, 1) := by decide +kernel
theorem d_M_nextOf_19 : decode c_M_nextOf 19 = .ok (.iload 6, 2) := by decide +kernel
theorem d_M_nextOf_21 : decode c_M_nextOf 21 = .ok (.iadd, 1) := by decide +kernel
theorem d_M_nextOf_22 : decode c_M_nextOf 22 = .ok (.istore 7, 2) := by decide +kernel
theorem d_M_nextOf_24 : decode c_M_nextOf 24 = .ok (.aload_n 0, 1) := by decide +kernel
theorem d_M_nextOf_25 : decode c_M_nextOf 25 = .ok (.iload_n 1, 1) := by decide +kernel
theorem d_M_nextOf_26 : decode c_M_nextOf 26 = .ok (.iload 7, 2) := by decide +kernel
theorem d_M_nextOf_28 : decode c_M_nextOf 28 = .ok (.iload_n 2, 1) := by decide +kernel
theorem d_M_nextOf_29 : decode c_M_nextOf 29 = .ok (.iconst 1, 1) := by decide +kernel
theorem d_M_nextOf_30 : decode c_M_nextOf 30 = .ok (.invokevirtual 149, 3) := by decide +kernel
theorem d_M_nextOf_33 : decode c_M_nextOf 33 = .ok (.aload_n 0, 1) := by decide +kernel
theorem d_M_nextOf_34 : decode c_M_nextOf 34 = .ok (.iload_n 1, 1) := by decide +kernel
theorem d_M_nextOf_35 : decode c_M_nextOf 35 = .ok (.iload 7, 2) := by decide +kernel
theorem d_M_nextOf_37 : decode c_M_nextOf 37 = .ok (.iload_n 2, 1) := by decide +kernel
theorem d_M_nextOf_38 : decode c_M_nextOf 38 = .ok (.iconst 0, 1) := by decide +kernel
theorem d_M_nextOf_39 : decode c_M_nextOf 39 = .ok (.invokevirtual 149, 3) := by decide +kernel
theorem d_M_nextOf_42 : decode c_M_nextOf 42 = .ok (.lsub, 1) := by decide +kernel
theorem d_M_nextOf_43 : decode c_M_nextOf 43 = .ok (.lstore 8, 2) := by decide +kernel
theorem d_M_nextOf_45 : decode c_M_nextOf 45 = .ok (.lload 8, 2) := by decide +kernel
theorem d_M_nextOf_47 : decode c_M_nextOf 47 = .ok (.lload 4, 2) := by decide +kernel
theorem d_M_nextOf_49 : decode c_M_nextOf 49 = .ok (.lcmp, 1) := by decide +kernel
theorem d_M_nextOf_50 : decode c_M_nextOf 50 = .ok (.ifCond .le 10, 3) := by decide +kernel
theorem d_M_nextOf_53 : decode c_M_nextOf 53 = .ok (.iload 6, 2) := by decide +kernel
theorem d_M_nextOf_55 : decode c_M_nextOf 55 = .ok (.istore_n 3, 1) := by decide +kernel
theorem d_M_nextOf_56 : decode c_M_nextOf 56 = .ok (.lload 8, 2) := by decide +kernel
theorem d_M_nextOf_58 : decode c_M_nextOf 58 = .ok (.lstore 4, 2) := by decide +kernel
theorem d_M_nextOf_60 : decode c_M_nextOf 60 = .ok (.iinc 6 1, 3) := by decide +kernel
theorem d_M_nextOf_63 : decode c_M_nextOf 63 = .ok (.goto (-55), 3) := by decide +kernel
theorem d_M_nextOf_66 : decode c_M_nextOf 66 = .ok (.iload_n 3, 1) := by decide +kernel
theorem d_M_nextOf_67 : decode c_M_nextOf 67 = .ok (.ireturn, 1) := by decide +kernel
theorem d_M_next_0 : decode c_M_next 0 = .ok (.iload_n 1, 1) := by decide +kernel
theorem d_M_next_1 : decode c_M_next 1 = .ok (.invokestatic 78, 3) := by decide +kernel
theorem d_M_next_4 : decode c_M_next 4 = .ok (.ifCond .eq 10, 3) := by decide +kernel
theorem d_M_next_7 : decode c_M_next 7 = .ok (.iload_n 2, 1) := by decide +kernel
theorem d_M_next_8 : decode c_M_next 8 = .ok (.invokestatic 153, 3) := by decide +kernel
theorem d_M_next_11 : decode c_M_next 11 = .ok (.ifCond .ne 6, 3) := by decide +kernel
theorem d_M_next_14 : decode c_M_next 14 = .ok (.bipush (-2), 2) := by decide +kernel
theorem d_M_next_16 : decode c_M_next 16 = .ok (.ireturn, 1) := by decide +kernel
theorem d_M_next_17 : decode c_M_next 17 = .ok (.aload_n 0, 1) := by decide +kernel
theorem d_M_next_18 : decode c_M_next 18 = .ok (.getfield 44, 3) := by decide +kernel
theorem d_M_next_21 : decode c_M_next 21 = .ok (.iload_n 1, 1) := by decide +kernel
theorem d_M_next_22 : decode c_M_next 22 = .ok (.baload, 1) := by decide +kernel
theorem d_M_next_23 : decode c_M_next 23 = .ok (.ifCond .eq 12, 3) := by decide +kernel
theorem d_M_next_26 : decode c_M_next 26 = .ok (.aload_n 0, 1) := by decide +kernel
theorem d_M_next_27 : decode c_M_next 27 = .ok (.iload_n 1, 1) := by decide +kernel
theorem d_M_next_28 : decode c_M_next 28 = .ok (.iload_n 2, 1) := by decide +kernel
theorem d_M_next_29 : decode c_M_next 29 = .ok (.invokevirtual 175, 3) := by decide +kernel
theorem d_M_next_32 : decode c_M_next 32 = .ok (.goto 5, 3) := by decide +kernel
theorem d_M_next_35 : decode c_M_next 35 = .ok (.bipush (-3), 2) := by decide +kernel
theorem d_M_next_37 : decode c_M_next 37 = .ok (.ireturn, 1) := by decide +kernel
theorem d_M_refine_0 : decode c_M_refine 0 = .ok (.iload_n 1, 1) := by decide +kernel
theorem d_M_refine_1 : decode c_M_refine 1 = .ok (.invokestatic 78, 3) := by decide +kernel
theorem d_M_refine_4 : decode c_M_refine 4 = .ok (.ifCond .eq 20, 3) := by decide +kernel
theorem d_M_refine_7 : decode c_M_refine 7 = .ok (.iload_n 2, 1) := by decide +kernel
theorem d_M_refine_8 : decode c_M_refine 8 = .ok (.invokestatic 153, 3) := by decide +kernel
theorem d_M_refine_11 : decode c_M_refine 11 = .ok (.ifCond .eq 13, 3) := by decide +kernel
theorem d_M_refine_14 : decode c_M_refine 14 = .ok (.iload_n 3, 1) := by decide +kernel
theorem d_M_refine_15 : decode c_M_refine 15 = .ok (.iconst 0, 1) := by decide +kernel
theorem d_M_refine_16 : decode c_M_refine 16 = .ok (.ldc 178, 2) := by decide +kernel
theorem d_M_refine_18 : decode c_M_refine 18 = .ok (.invokestatic 74, 3) := by decide +kernel
theorem d_M_refine_21 : decode c_M_refine 21 = .ok (.ifCond .ne 6, 3) := by decide +kernel
theorem d_M_refine_24 : decode c_M_refine 24 = .ok (.bipush (-2), 2) := by decide +kernel
theorem d_M_refine_26 : decode c_M_refine 26 = .ok (.ireturn, 1) := by decide +kernel
theorem d_M_refine_27 : decode c_M_refine 27 = .ok (.aload_n 0, 1) := by decide +kernel
theorem d_M_refine_28 : decode c_M_refine 28 = .ok (.getfield 44, 3) := by decide +kernel
theorem d_M_refine_31 : decode c_M_refine 31 = .ok (.iload_n 1, 1) := by decide +kernel
theorem d_M_refine_32 : decode c_M_refine 32 = .ok (.baload, 1) := by decide +kernel
theorem d_M_refine_33 : decode c_M_refine 33 = .ok (.ifCond .ne 6, 3) := by decide +kernel
theorem d_M_refine_36 : decode c_M_refine 36 = .ok (.bipush (-3), 2) := by decide +kernel
theorem d_M_refine_38 : decode c_M_refine 38 = .ok (.ireturn, 1) := by decide +kernel
theorem d_M_refine_39 : decode c_M_refine 39 = .ok (.iconst 0, 1) := by decide +kernel
theorem d_M_refine_40 : decode c_M_refine 40 = .ok (.istore 4, 2) := by decide +kernel
theorem d_M_refine_42 : decode c_M_refine 42 = .ok (.aload_n 0, 1) := by decide +kernel
theorem d_M_refine_43 : decode c_M_refine 43 = .ok (.iload_n 1, 1) := by decide +kernel
theorem d_M_refine_44 : decode c_M_refine 44 = .ok (.iload_n 2, 1) := by decide +kernel
theorem d_M_refine_45 : decode c_M_refine 45 = .ok (.iconst 1, 1) := by decide +kernel
theorem d_M_refine_46 : decode c_M_refine 46 = .ok (.invokevirtual 158, 3) := by decide +kernel
theorem d_M_refine_49 : decode c_M_refine 49 = .ok (.aload_n 0, 1) := by decide +kernel
theorem d_M_refine_50 : decode c_M_refine 50 = .ok (.iload_n 1, 1) := by decide +kernel
theorem d_M_refine_51 : decode c_M_refine 51 = .ok (.iload_n 2, 1) := by decide +kernel
theorem d_M_refine_52 : decode c_M_refine 52 = .ok (.iconst 0, 1) := by decide +kernel
theorem d_M_refine_53 : decode c_M_refine 53 = .ok (.invokevirtual 158, 3) := by decide +kernel
theorem d_M_refine_56 : decode c_M_refine 56 = .ok (.lsub, 1) := by decide +kernel
theorem d_M_refine_57 : decode c_M_refine 57 = .ok (.iload_n 3, 1) := by decide +kernel
theorem d_M_refine_58 : decode c_M_refine 58 = .ok (.i2l, 1) := by decide +kernel
theorem d_M_refine_59 : decode c_M_refine 59 = .ok (.lcmp, 1) := by decide +kernel
theorem d_M_refine_60 : decode c_M_refine 60 = .ok (.ifCond .le 26, 3) := by decide +kernel
theorem d_M_refine_63 : decode c_M_refine 63 = .ok (.aload_n 0, 1) := by decide +kernel
theorem d_M_refine_64 : decode c_M_refine 64 = .ok (.bipush 8, 2) := by decide +kernel
theorem d_M_refine_66 : decode c_M_refine 66 = .ok (.iload_n 1, 1) := by decide +kernel
theorem d_M_refine_67 : decode c_M_refine 67 = .ok (.imul, 1) := by decide +kernel
theorem d_M_refine_68 : decode c_M_refine 68 = .ok (.aload_n 0, 1) := by decide +kernel
theorem d_M_refine_69 : decode c_M_refine 69 = .ok (.iload_n 1, 1) := by decide +kernel
theorem d_M_refine_70 : decode c_M_refine 70 = .ok (.iload_n 2, 1) := by decide +kernel
theorem d_M_refine_71 : decode c_M_refine 71 = .ok (.invokevirtual 175, 3) := by decide +kernel
theorem d_M_refine_74 : decode c_M_refine 74 = .ok (.iadd, 1) := by decide +kernel
theorem d_M_refine_75 : decode c_M_refine 75 = .ok (.invokevirtual 123, 3) := by decide +kernel
theorem d_M_refine_78 : decode c_M_refine 78 = .ok (.istore 5, 2) := by decide +kernel
theorem d_M_refine_80 : decode c_M_refine 80 = .ok (.iinc 4 1, 3) := by decide +kernel
theorem d_M_refine_83 : decode c_M_refine 83 = .ok (.goto (-41), 3) := by decide +kernel
theorem d_M_refine_86 : decode c_M_refine 86 = .ok (.iload 4, 2) := by decide +kernel
theorem d_M_refine_88 : decode c_M_refine 88 = .ok (.ireturn, 1) := by decide +kernel
theorem d_M_meets_0 : decode c_M_meets 0 = .ok (.aload_n 0, 1) := by decide +kernel
theorem d_M_meets_1 : decode c_M_meets 1 = .ok (.iload_n 1, 1) := by decide +kernel
theorem d_M_meets_2 : decode c_M_meets 2 = .ok (.putfield 179, 3) := by decide +kernel
theorem d_M_meets_5 : decode c_M_meets 5 = .ok (.bipush (-10), 2) := by decide +kernel
theorem d_M_meets_7 : decode c_M_meets 7 = .ok (.iload_n 1, 1) := by decide +kernel
theorem d_M_meets_8 : decode c_M_meets 8 = .ok (.isub, 1) := by decide +kernel
theorem d_M_meets_9 : decode c_M_meets 9 = .ok (.ireturn, 1) := by decide +kernel
theorem d_M_isSheet_0 : decode c_M_isSheet 0 = .ok (.iload_n 0, 1) := by decide +kernel
theorem d_M_isSheet_1 : decode c_M_isSheet 1 = .ok (.iconst 0, 1) := by decide +kernel
theorem d_M_isSheet_2 : decode c_M_isSheet 2 = .ok (.iconst 3, 1) := by decide +kernel
theorem d_M_isSheet_3 : decode c_M_isSheet 3 = .ok (.invokestatic 74, 3) := by decide +kernel
theorem d_M_isSheet_6 : decode c_M_isSheet 6 = .ok (.ireturn, 1) := by decide +kernel
theorem d_M_sheet_0 : decode c_M_sheet 0 = .ok (.iload_n 1, 1) := by decide +kernel
theorem d_M_sheet_1 : decode c_M_sheet 1 = .ok (.invokestatic 93, 3) := by decide +kernel
theorem d_M_sheet_4 : decode c_M_sheet 4 = .ok (.ifCond .eq 18, 3) := by decide +kernel
theorem d_M_sheet_7 : decode c_M_sheet 7 = .ok (.iload_n 2, 1) := by decide +kernel
theorem d_M_sheet_8 : decode c_M_sheet 8 = .ok (.iconst 0, 1) := by decide +kernel
theorem d_M_sheet_9 : decode c_M_sheet 9 = .ok (.iconst 2, 1) := by decide +kernel
theorem d_M_sheet_10 : decode c_M_sheet 10 = .ok (.invokestatic 74, 3) := by decide +kernel
theorem d_M_sheet_13 : decode c_M_sheet 13 = .ok (.ifCond .eq 9, 3) := by decide +kernel
theorem d_M_sheet_16 : decode c_M_sheet 16 = .ok (.iload_n 3, 1) := by decide +kernel
theorem d_M_sheet_17 : decode c_M_sheet 17 = .ok (.bipush 40, 2) := by decide +kernel
theorem d_M_sheet_19 : decode c_M_sheet 19 = .ok (.if_icmp .le 6, 3) := by decide +kernel
theorem d_M_sheet_22 : decode c_M_sheet 22 = .ok (.bipush (-2), 2) := by decide +kernel
theorem d_M_sheet_24 : decode c_M_sheet 24 = .ok (.ireturn, 1) := by decide +kernel
theorem d_M_sheet_25 : decode c_M_sheet 25 = .ok (.iload_n 3, 1) := by decide +kernel
theorem d_M_sheet_26 : decode c_M_sheet 26 = .ok (.ifCond .ge 9, 3) := by decide +kernel
theorem d_M_sheet_29 : decode c_M_sheet 29 = .ok (.aload_n 0, 1) := by decide +kernel
theorem d_M_sheet_30 : decode c_M_sheet 30 = .ok (.iconst 5, 1) := by decide +kernel
theorem d_M_sheet_31 : decode c_M_sheet 31 = .ok (.invokevirtual 96, 3) := by decide +kernel
theorem d_M_sheet_34 : decode c_M_sheet 34 = .ok (.ireturn, 1) := by decide +kernel
theorem d_M_sheet_35 : decode c_M_sheet 35 = .ok (.aload_n 0, 1) := by decide +kernel
theorem d_M_sheet_36 : decode c_M_sheet 36 = .ok (.getfield 59, 3) := by decide +kernel
theorem d_M_sheet_39 : decode c_M_sheet 39 = .ok (.iload_n 1, 1) := by decide +kernel
theorem d_M_sheet_40 : decode c_M_sheet 40 = .ok (.iconst 1, 1) := by decide +kernel
theorem d_M_sheet_41 : decode c_M_sheet 41 = .ok (.bastore, 1) := by decide +kernel
theorem d_M_sheet_42 : decode c_M_sheet 42 = .ok (.aload_n 0, 1) := by decide +kernel
theorem d_M_sheet_43 : decode c_M_sheet 43 = .ok (.getfield 62, 3) := by decide +kernel
theorem d_M_sheet_46 : decode c_M_sheet 46 = .ok (.iload_n 1, 1) := by decide +kernel
theorem d_M_sheet_47 : decode c_M_sheet 47 = .ok (.iload_n 2, 1) := by decide +kernel
theorem d_M_sheet_48 : decode c_M_sheet 48 = .ok (.iastore, 1) := by decide +kernel
theorem d_M_sheet_49 : decode c_M_sheet 49 = .ok (.aload_n 0, 1) := by decide +kernel
theorem d_M_sheet_50 : decode c_M_sheet 50 = .ok (.getfield 65, 3) := by decide +kernel
theorem d_M_sheet_53 : decode c_M_sheet 53 = .ok (.iload_n 1, 1) := by decide +kernel
theorem d_M_sheet_54 : decode c_M_sheet 54 = .ok (.iload_n 3, 1) := by decide +kernel
theorem d_M_sheet_55 : decode c_M_sheet 55 = .ok (.iastore, 1) := by decide +kernel
theorem d_M_sheet_56 : decode c_M_sheet 56 = .ok (.iconst 0, 1) := by decide +kernel
theorem d_M_sheet_57 : decode c_M_sheet 57 = .ok (.istore 4, 2) := by decide +kernel
theorem d_M_sheet_59 : decode c_M_sheet 59 = .ok (.iload 4, 2) := by decide +kernel
theorem d_M_sheet_61 : decode c_M_sheet 61 = .ok (.bipush 40, 2) := by decide +kernel
theorem d_M_sheet_63 : decode c_M_sheet 63 = .ok (.if_icmp .ge 22, 3) := by decide +kernel
theorem d_M_sheet_66 : decode c_M_sheet 66 = .ok (.aload_n 0, 1) := by decide +kernel
theorem d_M_sheet_67 : decode c_M_sheet 67 = .ok (.getfield 68, 3) := by decide +kernel
theorem d_M_sheet_70 : decode c_M_sheet 70 = .ok (.bipush 40, 2) := by decide +kernel
theorem d_M_sheet_72 : decode c_M_sheet 72 = .ok (.iload_n 1, 1) := by decide +kernel
theorem d_M_sheet_73 : decode c_M_sheet 73 = .ok (.imul, 1) := by decide +kernel
theorem d_M_sheet_74 : decode c_M_sheet 74 = .ok (.iload 4, 2) := by decide +kernel
theorem d_M_sheet_76 : decode c_M_sheet 76 = .ok (.iadd, 1) := by decide +kernel
theorem d_M_sheet_77 : decode c_M_sheet 77 = .ok (.iconst 0, 1) := by decide +kernel
theorem d_M_sheet_78 : decode c_M_sheet 78 = .ok (.iastore, 1) := by decide +kernel
theorem d_M_sheet_79 : decode c_M_sheet 79 = .ok (.iinc 4 1, 3) := by decide +kernel
theorem d_M_sheet_82 : decode c_M_sheet 82 = .ok (.goto (-23), 3) := by decide +kernel
theorem d_M_sheet_85 : decode c_M_sheet 85 = .ok (.iload_n 3, 1) := by decide +kernel
theorem d_M_sheet_86 : decode c_M_sheet 86 = .ok (.ireturn, 1) := by decide +kernel
theorem d_M_lose_0 : decode c_M_lose 0 = .ok (.iload_n 1, 1) := by decide +kernel
theorem d_M_lose_1 : decode c_M_lose 1 = .ok (.invokestatic 93, 3) := by decide +kernel
theorem d_M_lose_4 : decode c_M_lose 4 = .ok (.ifCond .ne 6, 3) := by decide +kernel
theorem d_M_lose_7 : decode c_M_lose 7 = .ok (.bipush (-2), 2) := by decide +kernel
theorem d_M_lose_9 : decode c_M_lose 9 = .ok (.ireturn, 1) := by decide +kernel
theorem d_M_lose_10 : decode c_M_lose 10 = .ok (.aload_n 0, 1) := by decide +kernel
theorem d_M_lose_11 : decode c_M_lose 11 = .ok (.getfield 59, 3) := by decide +kernel
theorem d_M_lose_14 : decode c_M_lose 14 = .ok (.iload_n 1, 1) := by decide +kernel
theorem d_M_lose_15 : decode c_M_lose 15 = .ok (.baload, 1) := by decide +kernel
theorem d_M_lose_16 : decode c_M_lose 16 = .ok (.ifCond .ne 9, 3) := by decide +kernel
theorem d_M_lose_19 : decode c_M_lose 19 = .ok (.aload_n 0, 1) := by decide +kernel
theorem d_M_lose_20 : decode c_M_lose 20 = .ok (.iconst 1, 1) := by decide +kernel
theorem d_M_lose_21 : decode c_M_lose 21 = .ok (.invokevirtual 96, 3) := by decide +kernel
theorem d_M_lose_24 : decode c_M_lose 24 = .ok (.ireturn, 1) := by decide +kernel
theorem d_M_lose_25 : decode c_M_lose 25 = .ok (.aload_n 0, 1) := by decide +kernel
theorem d_M_lose_26 : decode c_M_lose 26 = .ok (.getfield 59, 3) := by decide +kernel
theorem d_M_lose_29 : decode c_M_lose 29 = .ok (.iload_n 1, 1) := by decide +kernel
theorem d_M_lose_30 : decode c_M_lose 30 = .ok (.iconst 0, 1) := by decide +kernel
theorem d_M_lose_31 : decode c_M_lose 31 = .ok (.bastore, 1) := by decide +kernel
theorem d_M_lose_32 : decode c_M_lose 32 = .ok (.aload_n 0, 1) := by decide +kernel
theorem d_M_lose_33 : decode c_M_lose 33 = .ok (.getfield 65, 3) := by decide +kernel
theorem d_M_lose_36 : decode c_M_lose 36 = .ok (.iload_n 1, 1) := by decide +kernel
theorem d_M_lose_37 : decode c_M_lose 37 = .ok (.iaload, 1) := by decide +kernel
theorem d_M_lose_38 : decode c_M_lose 38 = .ok (.ireturn, 1) := by decide +kernel
theorem d_M_lacks_0 : decode c_M_lacks 0 = .ok (.aload_n 0, 1) := by decide +kernel
theorem d_M_lacks_1 : decode c_M_lacks 1 = .ok (.getfield 59, 3) := by decide +kernel
theorem d_M_lacks_4 : decode c_M_lacks 4 = .ok (.iload_n 1, 1) := by decide +kernel
theorem d_M_lacks_5 : decode c_M_lacks 5 = .ok (.baload, 1) := by decide +kernel
theorem d_M_lacks_6 : decode c_M_lacks 6 = .ok (.ifCond .ne 7, 3) := by decide +kernel
theorem d_M_lacks_9 : decode c_M_lacks 9 = .ok (.iconst 1, 1) := by decide +kernel
theorem d_M_lacks_10 : decode c_M_lacks 10 = .ok (.goto 38, 3) := by decide +kernel
theorem d_M_lacks_13 : decode c_M_lacks 13 = .ok (.aload_n 0, 1) := by decide +kernel
theorem d_M_lacks_14 : decode c_M_lacks 14 = .ok (.getfield 62, 3) := by decide +kernel
theorem d_M_lacks_17 : decode c_M_lacks 17 = .ok (.iload_n 1, 1) := by decide +kernel
theorem d_M_lacks_18 : decode c_M_lacks 18 = .ok (.iaload, 1) := by decide +kernel
theorem d_M_lacks_19 : decode c_M_lacks 19 = .ok (.iload_n 2, 1) := by decide +kernel
theorem d_M_lacks_20 : decode c_M_lacks 20 = .ok (.if_icmp .eq 7, 3) := by decide +kernel
theorem d_M_lacks_23 : decode c_M_lacks 23 = .ok (.iconst 3, 1) := by decide +kernel
theorem d_M_lacks_24 : decode c_M_lacks 24 = .ok (.goto 24, 3) := by decide +kernel
theorem d_M_lacks_27 : decode c_M_lacks 27 = .ok (.iload_n 3, 1) := by decide +kernel
theorem d_M_lacks_28 : decode c_M_lacks 28 = .ok (.iconst 0, 1) := by decide +kernel
theorem d_M_lacks_29 : decode c_M_lacks 29 = .ok (.aload_n 0, 1) := by decide +kernel
theorem d_M_lacks_30 : decode c_M_lacks 30 = .ok (.getfield 65, 3) := by decide +kernel
theorem d_M_lacks_33 : decode c_M_lacks 33 = .ok (.iload_n 1, 1) := by decide +kernel
theorem d_M_lacks_34 : decode c_M_lacks 34 = .ok (.iaload, 1) := by decide +kernel
theorem d_M_lacks_35 : decode c_M_lacks 35 = .ok (.iconst 1, 1) := by decide +kernel
theorem d_M_lacks_36 : decode c_M_lacks 36 = .ok (.isub, 1) := by decide +kernel
theorem d_M_lacks_37 : decode c_M_lacks 37 = .ok (.invokestatic 74, 3) := by decide +kernel
theorem d_M_lacks_40 : decode c_M_lacks 40 = .ok (.ifCond .eq 7, 3) := by decide +kernel
theorem d_M_lacks_43 : decode c_M_lacks 43 = .ok (.iconst 0, 1) := by decide +kernel
theorem d_M_lacks_44 : decode c_M_lacks 44 = .ok (.goto 4, 3) := by decide +kernel
theorem d_M_lacks_47 : decode c_M_lacks 47 = .ok (.iconst 2, 1) := by decide +kernel
theorem d_M_lacks_48 : decode c_M_lacks 48 = .ok (.ireturn, 1) := by decide +kernel
theorem d_M_lay_0 : decode c_M_lay 0 = .ok (.aload_n 0, 1) := by decide +kernel
theorem d_M_lay_1 : decode c_M_lay 1 = .ok (.getfield 68, 3) := by decide +kernel
theorem d_M_lay_4 : decode c_M_lay 4 = .ok (.bipush 40, 2) := by decide +kernel
theorem d_M_lay_6 : decode c_M_lay 6 = .ok (.iload_n 1, 1) := by decide +kernel
theorem d_M_lay_7 : decode c_M_lay 7 = .ok (.imul, 1) := by decide +kernel
theorem d_M_lay_8 : decode c_M_lay 8 = .ok (.iload_n 2, 1) := by decide +kernel
theorem d_M_lay_9 : decode c_M_lay 9 = .ok (.iadd, 1) := by decide +kernel
theorem d_M_lay_10 : decode c_M_lay 10 = .ok (.aload_n 0, 1) := by decide +kernel
theorem d_M_lay_11 : decode c_M_lay 11 = .ok (.getfield 62, 3) := by decide +kernel
theorem d_M_lay_14 : decode c_M_lay 14 = .ok (.iload_n 1, 1) := by decide +kernel
theorem d_M_lay_15 : decode c_M_lay 15 = .ok (.iaload, 1) := by decide +kernel
theorem d_M_lay_16 : decode c_M_lay 16 = .ok (.ifCond .ne 8, 3) := by decide +kernel
theorem d_M_lay_19 : decode c_M_lay 19 = .ok (.iload_n 3, 1) := by decide +kernel
theorem d_M_lay_20 : decode c_M_lay 20 = .ok (.i2b, 1) := by decide +kernel
theorem d_M_lay_21 : decode c_M_lay 21 = .ok (.goto 19, 3) := by decide +kernel
theorem d_M_lay_24 : decode c_M_lay 24 = .ok (.aload_n 0, 1) := by decide +kernel
theorem d_M_lay_25 : decode c_M_lay 25 = .ok (.getfield 62, 3) := by decide +kernel
theorem d_M_lay_28 : decode c_M_lay 28 = .ok (.iload_n 1, 1) := by decide +kernel
theorem d_M_lay_29 : decode c_M_lay 29 = .ok (.iaload, 1) := by decide +kernel
theorem d_M_lay_30 : decode c_M_lay 30 = .ok (.iconst 1, 1) := by decide +kernel
theorem d_M_lay_31 : decode c_M_lay 31 = .ok (.if_icmp .ne 8, 3) := by decide +kernel
theorem d_M_lay_34 : decode c_M_lay 34 = .ok (.iload_n 3, 1) := by decide +kernel
theorem d_M_lay_35 : decode c_M_lay 35 = .ok (.i2s, 1) := by decide +kernel
theorem d_M_lay_36 : decode c_M_lay 36 = .ok (.goto 4, 3) := by decide +kernel
theorem d_M_lay_39 : decode c_M_lay 39 = .ok (.iload_n 3, 1) := by decide +kernel
theorem d_M_lay_40 : decode c_M_lay 40 = .ok (.iastore, 1) := by decide +kernel
theorem d_M_lay_41 : decode c_M_lay 41 = .ok (.return_, 1) := by decide +kernel
theorem d_M_put_0 : decode c_M_put 0 = .ok (.iload_n 1, 1) := by decide +kernel
theorem d_M_put_1 : decode c_M_put 1 = .ok (.invokestatic 93, 3) := by decide +kernel
theorem d_M_put_4 : decode c_M_put 4 = .ok (.ifCond .eq 12, 3) := by decide +kernel
theorem d_M_put_7 : decode c_M_put 7 = .ok (.iload_n 2, 1) := by decide +kernel
theorem d_M_put_8 : decode c_M_put 8 = .ok (.iconst 0, 1) := by decide +kernel
theorem d_M_put_9 : decode c_M_put 9 = .ok (.iconst 2, 1) := by decide +kernel
theorem d_M_put_10 : decode c_M_put 10 = .ok (.invokestatic 74, 3) := by decide +kernel
theorem d_M_put_13 : decode c_M_put 13 = .ok (.ifCond .ne 6, 3) := by decide +kernel
theorem d_M_put_16 : decode c_M_put 16 = .ok (.bipush (-2), 2) := by decide +kernel
theorem d_M_put_18 : decode c_M_put 18 = .ok (.ireturn, 1) := by decide +kernel
theorem d_M_put_19 : decode c_M_put 19 = .ok (.aload_n 0, 1) := by decide +kernel
theorem d_M_put_20 : decode c_M_put 20 = .ok (.iload_n 1, 1) := by decide +kernel
theorem d_M_put_21 : decode c_M_put 21 = .ok (.iload_n 2, 1) := by decide +kernel
theorem d_M_put_22 : decode c_M_put 22 = .ok (.iload_n 3, 1) := by decide +kernel
theorem d_M_put_23 : decode c_M_put 23 = .ok (.invokevirtual 182, 3) := by decide +kernel
theorem d_M_put_26 : decode c_M_put 26 = .ok (.istore 5, 2) := by decide +kernel
theorem d_M_put_28 : decode c_M_put 28 = .ok (.iload 5, 2) := by decide +kernel
theorem d_M_put_30 : decode c_M_put 30 = .ok (.ifCond .le 10, 3) := by decide +kernel
theorem d_M_put_33 : decode c_M_put 33 = .ok (.aload_n 0, 1) := by decide +kernel
theorem d_M_put_34 : decode c_M_put 34 = .ok (.iload 5, 2) := by decide +kernel
theorem d_M_put_36 : decode c_M_put 36 = .ok (.invokevirtual 96, 3) := by decide +kernel
theorem d_M_put_39 : decode c_M_put 39 = .ok (.ireturn, 1) := by decide +kernel
theorem d_M_put_40 : decode c_M_put 40 = .ok (.aload_n 0, 1) := by decide +kernel
theorem d_M_put_41 : decode c_M_put 41 = .ok (.iload_n 1, 1) := by decide +kernel
theorem d_M_put_42 : decode c_M_put 42 = .ok (.iload_n 3, 1) := by decide +kernel
theorem d_M_put_43 : decode c_M_put 43 = .ok (.iload 4, 2) := by decide +kernel
theorem d_M_put_45 : decode c_M_put 45 = .ok (.invokevirtual 186, 3) := by decide +kernel
theorem d_M_put_48 : decode c_M_put 48 = .ok (.iconst 1, 1) := by decide +kernel
theorem d_M_put_49 : decode c_M_put 49 = .ok (.ireturn, 1) := by decide +kernel
theorem d_M_get_0 : decode c_M_get 0 = .ok (.iload_n 1, 1) := by decide +kernel
theorem d_M_get_1 : decode c_M_get 1 = .ok (.invokestatic 93, 3) := by decide +kernel
theorem d_M_get_4 : decode c_M_get 4 = .ok (.ifCond .eq 12, 3) := by decide +kernel
theorem d_M_get_7 : decode c_M_get 7 = .ok (.iload_n 2, 1) := by decide +kernel
theorem d_M_get_8 : decode c_M_get 8 = .ok (.iconst 0, 1) := by decide +kernel
theorem d_M_get_9 : decode c_M_get 9 = .ok (.iconst 2, 1) := by decide +kernel
theorem d_M_get_10 : decode c_M_get 10 = .ok (.invokestatic 74, 3) := by decide +kernel
theorem d_M_get_13 : decode c_M_get 13 = .ok (.ifCond .ne 6, 3) := by decide +kernel
theorem d_M_get_16 : decode c_M_get 16 = .ok (.ldc 129, 2) := by decide +kernel
theorem d_M_get_18 : decode c_M_get 18 = .ok (.ireturn, 1) := by decide +kernel
theorem d_M_get_19 : decode c_M_get 19 = .ok (.aload_n 0, 1) := by decide +kernel
theorem d_M_get_20 : decode c_M_get 20 = .ok (.iload_n 1, 1) := by decide +kernel
theorem d_M_get_21 : decode c_M_get 21 = .ok (.iload_n 2, 1) := by decide +kernel
theorem d_M_get_22 : decode c_M_get 22 = .ok (.iload_n 3, 1) := by decide +kernel
end
section
theorem d_M_get_23 : decode c_M_get 23 = .ok (.invokevirtual 182, 3) := by decide +kernel
theorem d_M_get_26 : decode c_M_get 26 = .ok (.istore 4, 2) := by decide +kernel
theorem d_M_get_28 : decode c_M_get 28 = .ok (.iload 4, 2) := by decide +kernel
theorem d_M_get_30 : decode c_M_get 30 = .ok (.ifCond .le 12, 3) := by decide +kernel
theorem d_M_get_33 : decode c_M_get 33 = .ok (.aload_n 0, 1) := by decide +kernel
theorem d_M_get_34 : decode c_M_get 34 = .ok (.iload 4, 2) := by decide +kernel
theorem d_M_get_36 : decode c_M_get 36 = .ok (.putfield 179, 3) := by decide +kernel
theorem d_M_get_39 : decode c_M_get 39 = .ok (.ldc 129, 2) := by decide +kernel
theorem d_M_get_41 : decode c_M_get 41 = .ok (.ireturn, 1) := by decide +kernel
theorem d_M_get_42 : decode c_M_get 42 = .ok (.aload_n 0, 1) := by decide +kernel
theorem d_M_get_43 : decode c_M_get 43 = .ok (.getfield 68, 3) := by decide +kernel
theorem d_M_get_46 : decode c_M_get 46 = .ok (.bipush 40, 2) := by decide +kernel
theorem d_M_get_48 : decode c_M_get 48 = .ok (.iload_n 1, 1) := by decide +kernel
theorem d_M_get_49 : decode c_M_get 49 = .ok (.imul, 1) := by decide +kernel
theorem d_M_get_50 : decode c_M_get 50 = .ok (.iload_n 3, 1) := by decide +kernel
theorem d_M_get_51 : decode c_M_get 51 = .ok (.iadd, 1) := by decide +kernel
theorem d_M_get_52 : decode c_M_get 52 = .ok (.iaload, 1) := by decide +kernel
theorem d_M_get_53 : decode c_M_get 53 = .ok (.ireturn, 1) := by decide +kernel
theorem d_M_copy_0 : decode c_M_copy 0 = .ok (.iload_n 1, 1) := by decide +kernel
theorem d_M_copy_1 : decode c_M_copy 1 = .ok (.invokestatic 93, 3) := by decide +kernel
theorem d_M_copy_4 : decode c_M_copy 4 = .ok (.ifCond .eq 10, 3) := by decide +kernel
theorem d_M_copy_7 : decode c_M_copy 7 = .ok (.iload_n 3, 1) := by decide +kernel
theorem d_M_copy_8 : decode c_M_copy 8 = .ok (.invokestatic 93, 3) := by decide +kernel
theorem d_M_copy_11 : decode c_M_copy 11 = .ok (.ifCond .ne 6, 3) := by decide +kernel
theorem d_M_copy_14 : decode c_M_copy 14 = .ok (.bipush (-2), 2) := by decide +kernel
theorem d_M_copy_16 : decode c_M_copy 16 = .ok (.ireturn, 1) := by decide +kernel
theorem d_M_copy_17 : decode c_M_copy 17 = .ok (.aload_n 0, 1) := by decide +kernel
theorem d_M_copy_18 : decode c_M_copy 18 = .ok (.getfield 59, 3) := by decide +kernel
theorem d_M_copy_21 : decode c_M_copy 21 = .ok (.iload_n 1, 1) := by decide +kernel
theorem d_M_copy_22 : decode c_M_copy 22 = .ok (.baload, 1) := by decide +kernel
theorem d_M_copy_23 : decode c_M_copy 23 = .ok (.ifCond .eq 12, 3) := by decide +kernel
theorem d_M_copy_26 : decode c_M_copy 26 = .ok (.aload_n 0, 1) := by decide +kernel
theorem d_M_copy_27 : decode c_M_copy 27 = .ok (.getfield 59, 3) := by decide +kernel
theorem d_M_copy_30 : decode c_M_copy 30 = .ok (.iload_n 3, 1) := by decide +kernel
theorem d_M_copy_31 : decode c_M_copy 31 = .ok (.baload, 1) := by decide +kernel
theorem d_M_copy_32 : decode c_M_copy 32 = .ok (.ifCond .ne 9, 3) := by decide +kernel
theorem d_M_copy_35 : decode c_M_copy 35 = .ok (.aload_n 0, 1) := by decide +kernel
theorem d_M_copy_36 : decode c_M_copy 36 = .ok (.iconst 1, 1) := by decide +kernel
theorem d_M_copy_37 : decode c_M_copy 37 = .ok (.invokevirtual 96, 3) := by decide +kernel
theorem d_M_copy_40 : decode c_M_copy 40 = .ok (.ireturn, 1) := by decide +kernel
theorem d_M_copy_41 : decode c_M_copy 41 = .ok (.aload_n 0, 1) := by decide +kernel
theorem d_M_copy_42 : decode c_M_copy 42 = .ok (.getfield 62, 3) := by decide +kernel
theorem d_M_copy_45 : decode c_M_copy 45 = .ok (.iload_n 1, 1) := by decide +kernel
theorem d_M_copy_46 : decode c_M_copy 46 = .ok (.iaload, 1) := by decide +kernel
theorem d_M_copy_47 : decode c_M_copy 47 = .ok (.aload_n 0, 1) := by decide +kernel
theorem d_M_copy_48 : decode c_M_copy 48 = .ok (.getfield 62, 3) := by decide +kernel
theorem d_M_copy_51 : decode c_M_copy 51 = .ok (.iload_n 3, 1) := by decide +kernel
theorem d_M_copy_52 : decode c_M_copy 52 = .ok (.iaload, 1) := by decide +kernel
theorem d_M_copy_53 : decode c_M_copy 53 = .ok (.if_icmp .eq 9, 3) := by decide +kernel
theorem d_M_copy_56 : decode c_M_copy 56 = .ok (.aload_n 0, 1) := by decide +kernel
theorem d_M_copy_57 : decode c_M_copy 57 = .ok (.iconst 4, 1) := by decide +kernel
theorem d_M_copy_58 : decode c_M_copy 58 = .ok (.invokevirtual 96, 3) := by decide +kernel
theorem d_M_copy_61 : decode c_M_copy 61 = .ok (.ireturn, 1) := by decide +kernel
theorem d_M_copy_62 : decode c_M_copy 62 = .ok (.iload_n 2, 1) := by decide +kernel
theorem d_M_copy_63 : decode c_M_copy 63 = .ok (.ifCond .lt 48, 3) := by decide +kernel
theorem d_M_copy_66 : decode c_M_copy 66 = .ok (.iload 4, 2) := by decide +kernel
theorem d_M_copy_68 : decode c_M_copy 68 = .ok (.ifCond .lt 43, 3) := by decide +kernel
theorem d_M_copy_71 : decode c_M_copy 71 = .ok (.iload 5, 2) := by decide +kernel
theorem d_M_copy_73 : decode c_M_copy 73 = .ok (.ifCond .lt 38, 3) := by decide +kernel
theorem d_M_copy_76 : decode c_M_copy 76 = .ok (.iload_n 2, 1) := by decide +kernel
theorem d_M_copy_77 : decode c_M_copy 77 = .ok (.i2l, 1) := by decide +kernel
theorem d_M_copy_78 : decode c_M_copy 78 = .ok (.iload 5, 2) := by decide +kernel
theorem d_M_copy_80 : decode c_M_copy 80 = .ok (.i2l, 1) := by decide +kernel
theorem d_M_copy_81 : decode c_M_copy 81 = .ok (.ladd, 1) := by decide +kernel
theorem d_M_copy_82 : decode c_M_copy 82 = .ok (.aload_n 0, 1) := by decide +kernel
theorem d_M_copy_83 : decode c_M_copy 83 = .ok (.getfield 65, 3) := by decide +kernel
theorem d_M_copy_86 : decode c_M_copy 86 = .ok (.iload_n 1, 1) := by decide +kernel
theorem d_M_copy_87 : decode c_M_copy 87 = .ok (.iaload, 1) := by decide +kernel
theorem d_M_copy_88 : decode c_M_copy 88 = .ok (.i2l, 1) := by decide +kernel
theorem d_M_copy_89 : decode c_M_copy 89 = .ok (.lcmp, 1) := by decide +kernel
theorem d_M_copy_90 : decode c_M_copy 90 = .ok (.ifCond .gt 21, 3) := by decide +kernel
theorem d_M_copy_93 : decode c_M_copy 93 = .ok (.iload 4, 2) := by decide +kernel
theorem d_M_copy_95 : decode c_M_copy 95 = .ok (.i2l, 1) := by decide +kernel
theorem d_M_copy_96 : decode c_M_copy 96 = .ok (.iload 5, 2) := by decide +kernel
theorem d_M_copy_98 : decode c_M_copy 98 = .ok (.i2l, 1) := by decide +kernel
theorem d_M_copy_99 : decode c_M_copy 99 = .ok (.ladd, 1) := by decide +kernel
theorem d_M_copy_100 : decode c_M_copy 100 = .ok (.aload_n 0, 1) := by decide +kernel
theorem d_M_copy_101 : decode c_M_copy 101 = .ok (.getfield 65, 3) := by decide +kernel
theorem d_M_copy_104 : decode c_M_copy 104 = .ok (.iload_n 3, 1) := by decide +kernel
theorem d_M_copy_105 : decode c_M_copy 105 = .ok (.iaload, 1) := by decide +kernel
theorem d_M_copy_106 : decode c_M_copy 106 = .ok (.i2l, 1) := by decide +kernel
theorem d_M_copy_107 : decode c_M_copy 107 = .ok (.lcmp, 1) := by decide +kernel
theorem d_M_copy_108 : decode c_M_copy 108 = .ok (.ifCond .le 9, 3) := by decide +kernel
theorem d_M_copy_111 : decode c_M_copy 111 = .ok (.aload_n 0, 1) := by decide +kernel
theorem d_M_copy_112 : decode c_M_copy 112 = .ok (.iconst 2, 1) := by decide +kernel
theorem d_M_copy_113 : decode c_M_copy 113 = .ok (.invokevirtual 96, 3) := by decide +kernel
theorem d_M_copy_116 : decode c_M_copy 116 = .ok (.ireturn, 1) := by decide +kernel
theorem d_M_copy_117 : decode c_M_copy 117 = .ok (.iconst 0, 1) := by decide +kernel
theorem d_M_copy_118 : decode c_M_copy 118 = .ok (.istore 6, 2) := by decide +kernel
theorem d_M_copy_120 : decode c_M_copy 120 = .ok (.iload 6, 2) := by decide +kernel
theorem d_M_copy_122 : decode c_M_copy 122 = .ok (.iload 5, 2) := by decide +kernel
theorem d_M_copy_124 : decode c_M_copy 124 = .ok (.if_icmp .ge 30, 3) := by decide +kernel
theorem d_M_copy_127 : decode c_M_copy 127 = .ok (.aload_n 0, 1) := by decide +kernel
theorem d_M_copy_128 : decode c_M_copy 128 = .ok (.getfield 71, 3) := by decide +kernel
theorem d_M_copy_131 : decode c_M_copy 131 = .ok (.iload 6, 2) := by decide +kernel
theorem d_M_copy_133 : decode c_M_copy 133 = .ok (.aload_n 0, 1) := by decide +kernel
theorem d_M_copy_134 : decode c_M_copy 134 = .ok (.getfield 68, 3) := by decide +kernel
theorem d_M_copy_137 : decode c_M_copy 137 = .ok (.bipush 40, 2) := by decide +kernel
theorem d_M_copy_139 : decode c_M_copy 139 = .ok (.iload_n 1, 1) := by decide +kernel
theorem d_M_copy_140 : decode c_M_copy 140 = .ok (.imul, 1) := by decide +kernel
theorem d_M_copy_141 : decode c_M_copy 141 = .ok (.iload_n 2, 1) := by decide +kernel
theorem d_M_copy_142 : decode c_M_copy 142 = .ok (.iadd, 1) := by decide +kernel
theorem d_M_copy_143 : decode c_M_copy 143 = .ok (.iload 6, 2) := by decide +kernel
theorem d_M_copy_145 : decode c_M_copy 145 = .ok (.iadd, 1) := by decide +kernel
theorem d_M_copy_146 : decode c_M_copy 146 = .ok (.iaload, 1) := by decide +kernel
theorem d_M_copy_147 : decode c_M_copy 147 = .ok (.iastore, 1) := by decide +kernel
theorem d_M_copy_148 : decode c_M_copy 148 = .ok (.iinc 6 1, 3) := by decide +kernel
theorem d_M_copy_151 : decode c_M_copy 151 = .ok (.goto (-31), 3) := by decide +kernel
theorem d_M_copy_154 : decode c_M_copy 154 = .ok (.iconst 0, 1) := by decide +kernel
theorem d_M_copy_155 : decode c_M_copy 155 = .ok (.istore 6, 2) := by decide +kernel
theorem d_M_copy_157 : decode c_M_copy 157 = .ok (.iload 6, 2) := by decide +kernel
theorem d_M_copy_159 : decode c_M_copy 159 = .ok (.iload 5, 2) := by decide +kernel
theorem d_M_copy_161 : decode c_M_copy 161 = .ok (.if_icmp .ge 31, 3) := by decide +kernel
theorem d_M_copy_164 : decode c_M_copy 164 = .ok (.aload_n 0, 1) := by decide +kernel
theorem d_M_copy_165 : decode c_M_copy 165 = .ok (.getfield 68, 3) := by decide +kernel
theorem d_M_copy_168 : decode c_M_copy 168 = .ok (.bipush 40, 2) := by decide +kernel
theorem d_M_copy_170 : decode c_M_copy 170 = .ok (.iload_n 3, 1) := by decide +kernel
theorem d_M_copy_171 : decode c_M_copy 171 = .ok (.imul, 1) := by decide +kernel
theorem d_M_copy_172 : decode c_M_copy 172 = .ok (.iload 4, 2) := by decide +kernel
theorem d_M_copy_174 : decode c_M_copy 174 = .ok (.iadd, 1) := by decide +kernel
theorem d_M_copy_175 : decode c_M_copy 175 = .ok (.iload 6, 2) := by decide +kernel
theorem d_M_copy_177 : decode c_M_copy 177 = .ok (.iadd, 1) := by decide +kernel
theorem d_M_copy_178 : decode c_M_copy 178 = .ok (.aload_n 0, 1) := by decide +kernel
theorem d_M_copy_179 : decode c_M_copy 179 = .ok (.getfield 71, 3) := by decide +kernel
theorem d_M_copy_182 : decode c_M_copy 182 = .ok (.iload 6, 2) := by decide +kernel
theorem d_M_copy_184 : decode c_M_copy 184 = .ok (.iaload, 1) := by decide +kernel
theorem d_M_copy_185 : decode c_M_copy 185 = .ok (.iastore, 1) := by decide +kernel
theorem d_M_copy_186 : decode c_M_copy 186 = .ok (.iinc 6 1, 3) := by decide +kernel
theorem d_M_copy_189 : decode c_M_copy 189 = .ok (.goto (-32), 3) := by decide +kernel
theorem d_M_copy_192 : decode c_M_copy 192 = .ok (.iconst 1, 1) := by decide +kernel
theorem d_M_copy_193 : decode c_M_copy 193 = .ok (.ireturn, 1) := by decide +kernel
theorem d_M_write_0 : decode c_M_write 0 = .ok (.iload_n 1, 1) := by decide +kernel
theorem d_M_write_1 : decode c_M_write 1 = .ok (.invokestatic 78, 3) := by decide +kernel
theorem d_M_write_4 : decode c_M_write 4 = .ok (.ifCond .eq 25, 3) := by decide +kernel
theorem d_M_write_7 : decode c_M_write 7 = .ok (.iload_n 2, 1) := by decide +kernel
theorem d_M_write_8 : decode c_M_write 8 = .ok (.invokestatic 93, 3) := by decide +kernel
theorem d_M_write_11 : decode c_M_write 11 = .ok (.ifCond .eq 18, 3) := by decide +kernel
theorem d_M_write_14 : decode c_M_write 14 = .ok (.iload_n 3, 1) := by decide +kernel
theorem d_M_write_15 : decode c_M_write 15 = .ok (.invokestatic 93, 3) := by decide +kernel
theorem d_M_write_18 : decode c_M_write 18 = .ok (.ifCond .eq 11, 3) := by decide +kernel
theorem d_M_write_21 : decode c_M_write 21 = .ok (.iload 4, 2) := by decide +kernel
theorem d_M_write_23 : decode c_M_write 23 = .ok (.invokestatic 93, 3) := by decide +kernel
theorem d_M_write_26 : decode c_M_write 26 = .ok (.ifCond .ne 6, 3) := by decide +kernel
theorem d_M_write_29 : decode c_M_write 29 = .ok (.bipush (-2), 2) := by decide +kernel
theorem d_M_write_31 : decode c_M_write 31 = .ok (.ireturn, 1) := by decide +kernel
theorem d_M_write_32 : decode c_M_write 32 = .ok (.aload_n 0, 1) := by decide +kernel
theorem d_M_write_33 : decode c_M_write 33 = .ok (.getfield 44, 3) := by decide +kernel
theorem d_M_write_36 : decode c_M_write 36 = .ok (.iload_n 1, 1) := by decide +kernel
theorem d_M_write_37 : decode c_M_write 37 = .ok (.baload, 1) := by decide +kernel
theorem d_M_write_38 : decode c_M_write 38 = .ok (.ifCond .ne 6, 3) := by decide +kernel
theorem d_M_write_41 : decode c_M_write 41 = .ok (.bipush (-3), 2) := by decide +kernel
theorem d_M_write_43 : decode c_M_write 43 = .ok (.ireturn, 1) := by decide +kernel
theorem d_M_write_44 : decode c_M_write 44 = .ok (.aload_n 0, 1) := by decide +kernel
theorem d_M_write_45 : decode c_M_write 45 = .ok (.getfield 59, 3) := by decide +kernel
theorem d_M_write_48 : decode c_M_write 48 = .ok (.iload_n 2, 1) := by decide +kernel
theorem d_M_write_49 : decode c_M_write 49 = .ok (.baload, 1) := by decide +kernel
theorem d_M_write_50 : decode c_M_write 50 = .ok (.ifCond .eq 22, 3) := by decide +kernel
theorem d_M_write_53 : decode c_M_write 53 = .ok (.aload_n 0, 1) := by decide +kernel
theorem d_M_write_54 : decode c_M_write 54 = .ok (.getfield 59, 3) := by decide +kernel
theorem d_M_write_57 : decode c_M_write 57 = .ok (.iload_n 3, 1) := by decide +kernel
theorem d_M_write_58 : decode c_M_write 58 = .ok (.baload, 1) := by decide +kernel
theorem d_M_write_59 : decode c_M_write 59 = .ok (.ifCond .eq 13, 3) := by decide +kernel
theorem d_M_write_62 : decode c_M_write 62 = .ok (.aload_n 0, 1) := by decide +kernel
theorem d_M_write_63 : decode c_M_write 63 = .ok (.getfield 59, 3) := by decide +kernel
theorem d_M_write_66 : decode c_M_write 66 = .ok (.iload 4, 2) := by decide +kernel
theorem d_M_write_68 : decode c_M_write 68 = .ok (.baload, 1) := by decide +kernel
theorem d_M_write_69 : decode c_M_write 69 = .ok (.ifCond .ne 9, 3) := by decide +kernel
theorem d_M_write_72 : decode c_M_write 72 = .ok (.aload_n 0, 1) := by decide +kernel
theorem d_M_write_73 : decode c_M_write 73 = .ok (.iconst 1, 1) := by decide +kernel
theorem d_M_write_74 : decode c_M_write 74 = .ok (.invokevirtual 96, 3) := by decide +kernel
theorem d_M_write_77 : decode c_M_write 77 = .ok (.ireturn, 1) := by decide +kernel
theorem d_M_write_78 : decode c_M_write 78 = .ok (.aload_n 0, 1) := by decide +kernel
theorem d_M_write_79 : decode c_M_write 79 = .ok (.getfield 65, 3) := by decide +kernel
theorem d_M_write_82 : decode c_M_write 82 = .ok (.iload_n 2, 1) := by decide +kernel
theorem d_M_write_83 : decode c_M_write 83 = .ok (.iaload, 1) := by decide +kernel
theorem d_M_write_84 : decode c_M_write 84 = .ok (.aload_n 0, 1) := by decide +kernel
theorem d_M_write_85 : decode c_M_write 85 = .ok (.getfield 65, 3) := by decide +kernel
theorem d_M_write_88 : decode c_M_write 88 = .ok (.iload_n 3, 1) := by decide +kernel
theorem d_M_write_89 : decode c_M_write 89 = .ok (.iaload, 1) := by decide +kernel
theorem d_M_write_90 : decode c_M_write 90 = .ok (.if_icmp .ge 12, 3) := by decide +kernel
theorem d_M_write_93 : decode c_M_write 93 = .ok (.aload_n 0, 1) := by decide +kernel
theorem d_M_write_94 : decode c_M_write 94 = .ok (.getfield 65, 3) := by decide +kernel
theorem d_M_write_97 : decode c_M_write 97 = .ok (.iload_n 2, 1) := by decide +kernel
theorem d_M_write_98 : decode c_M_write 98 = .ok (.iaload, 1) := by decide +kernel
theorem d_M_write_99 : decode c_M_write 99 = .ok (.goto 9, 3) := by decide +kernel
theorem d_M_write_102 : decode c_M_write 102 = .ok (.aload_n 0, 1) := by decide +kernel
theorem d_M_write_103 : decode c_M_write 103 = .ok (.getfield 65, 3) := by decide +kernel
theorem d_M_write_106 : decode c_M_write 106 = .ok (.iload_n 3, 1) := by decide +kernel
theorem d_M_write_107 : decode c_M_write 107 = .ok (.iaload, 1) := by decide +kernel
theorem d_M_write_108 : decode c_M_write 108 = .ok (.istore 5, 2) := by decide +kernel
theorem d_M_write_110 : decode c_M_write 110 = .ok (.aload_n 0, 1) := by decide +kernel
theorem d_M_write_111 : decode c_M_write 111 = .ok (.getfield 65, 3) := by decide +kernel
theorem d_M_write_114 : decode c_M_write 114 = .ok (.iload 4, 2) := by decide +kernel
theorem d_M_write_116 : decode c_M_write 116 = .ok (.iaload, 1) := by decide +kernel
theorem d_M_write_117 : decode c_M_write 117 = .ok (.iload 5, 2) := by decide +kernel
theorem d_M_write_119 : decode c_M_write 119 = .ok (.if_icmp .ge 13, 3) := by decide +kernel
theorem d_M_write_122 : decode c_M_write 122 = .ok (.aload_n 0, 1) := by decide +kernel
theorem d_M_write_123 : decode c_M_write 123 = .ok (.getfield 65, 3) := by decide +kernel
theorem d_M_write_126 : decode c_M_write 126 = .ok (.iload 4, 2) := by decide +kernel
theorem d_M_write_128 : decode c_M_write 128 = .ok (.iaload, 1) := by decide +kernel
theorem d_M_write_129 : decode c_M_write 129 = .ok (.goto 5, 3) := by decide +kernel
theorem d_M_write_132 : decode c_M_write 132 = .ok (.iload 5, 2) := by decide +kernel
theorem d_M_write_134 : decode c_M_write 134 = .ok (.istore 5, 2) := by decide +kernel
theorem d_M_write_136 : decode c_M_write 136 = .ok (.iconst 0, 1) := by decide +kernel
theorem d_M_write_137 : decode c_M_write 137 = .ok (.istore 6, 2) := by decide +kernel
theorem d_M_write_139 : decode c_M_write 139 = .ok (.bipush 96, 2) := by decide +kernel
theorem d_M_write_141 : decode c_M_write 141 = .ok (.iload_n 1, 1) := by decide +kernel
theorem d_M_write_142 : decode c_M_write 142 = .ok (.imul, 1) := by decide +kernel
theorem d_M_write_143 : decode c_M_write 143 = .ok (.istore 7, 2) := by decide +kernel
theorem d_M_write_145 : decode c_M_write 145 = .ok (.iload 7, 2) := by decide +kernel
theorem d_M_write_147 : decode c_M_write 147 = .ok (.bipush 96, 2) := by decide +kernel
theorem d_M_write_149 : decode c_M_write 149 = .ok (.iload_n 1, 1) := by decide +kernel
theorem d_M_write_150 : decode c_M_write 150 = .ok (.imul, 1) := by decide +kernel
theorem d_M_write_151 : decode c_M_write 151 = .ok (.bipush 96, 2) := by decide +kernel
theorem d_M_write_153 : decode c_M_write 153 = .ok (.iadd, 1) := by decide +kernel
theorem d_M_write_154 : decode c_M_write 154 = .ok (.if_icmp .ge 71, 3) := by decide +kernel
theorem d_M_write_157 : decode c_M_write 157 = .ok (.iload 6, 2) := by decide +kernel
theorem d_M_write_159 : decode c_M_write 159 = .ok (.iload 5, 2) := by decide +kernel
theorem d_M_write_161 : decode c_M_write 161 = .ok (.if_icmp .ge 64, 3) := by decide +kernel
theorem d_M_write_164 : decode c_M_write 164 = .ok (.aload_n 0, 1) := by decide +kernel
theorem d_M_write_165 : decode c_M_write 165 = .ok (.iload 7, 2) := by decide +kernel
theorem d_M_write_167 : decode c_M_write 167 = .ok (.invokevirtual 166, 3) := by decide +kernel
theorem d_M_write_170 : decode c_M_write 170 = .ok (.ifCond .eq 49, 3) := by decide +kernel
theorem d_M_write_173 : decode c_M_write 173 = .ok (.aload_n 0, 1) := by decide +kernel
theorem d_M_write_174 : decode c_M_write 174 = .ok (.iload_n 2, 1) := by decide +kernel
theorem d_M_write_175 : decode c_M_write 175 = .ok (.iload 6, 2) := by decide +kernel
theorem d_M_write_177 : decode c_M_write 177 = .ok (.aload_n 0, 1) := by decide +kernel
theorem d_M_write_178 : decode c_M_write 178 = .ok (.getfield 13, 3) := by decide +kernel
theorem d_M_write_181 : decode c_M_write 181 = .ok (.iload 7, 2) := by decide +kernel
theorem d_M_write_183 : decode c_M_write 183 = .ok (.iaload, 1) := by decide +kernel
theorem d_M_write_184 : decode c_M_write 184 = .ok (.invokevirtual 186, 3) := by decide +kernel
theorem d_M_write_187 : decode c_M_write 187 = .ok (.aload_n 0, 1) := by decide +kernel
theorem d_M_write_188 : decode c_M_write 188 = .ok (.iload_n 3, 1) := by decide +kernel
theorem d_M_write_189 : decode c_M_write 189 = .ok (.iload 6, 2) := by decide +kernel
theorem d_M_write_191 : decode c_M_write 191 = .ok (.aload_n 0, 1) := by decide +kernel
theorem d_M_write_192 : decode c_M_write 192 = .ok (.getfield 16, 3) := by decide +kernel
theorem d_M_write_195 : decode c_M_write 195 = .ok (.iload 7, 2) := by decide +kernel
theorem d_M_write_197 : decode c_M_write 197 = .ok (.iaload, 1) := by decide +kernel
theorem d_M_write_198 : decode c_M_write 198 = .ok (.invokevirtual 186, 3) := by decide +kernel
theorem d_M_write_201 : decode c_M_write 201 = .ok (.aload_n 0, 1) := by decide +kernel
theorem d_M_write_202 : decode c_M_write 202 = .ok (.iload 4, 2) := by decide +kernel
theorem d_M_write_204 : decode c_M_write 204 = .ok (.iload 6, 2) := by decide +kernel
theorem d_M_write_206 : decode c_M_write 206 = .ok (.aload_n 0, 1) := by decide +kernel
theorem d_M_write_207 : decode c_M_write 207 = .ok (.getfield 19, 3) := by decide +kernel
theorem d_M_write_210 : decode c_M_write 210 = .ok (.iload 7, 2) := by decide +kernel
theorem d_M_write_212 : decode c_M_write 212 = .ok (.iaload, 1) := by decide +kernel
theorem d_M_write_213 : decode c_M_write 213 = .ok (.invokevirtual 186, 3) := by decide +kernel
theorem d_M_write_216 : decode c_M_write 216 = .ok (.iinc 6 1, 3) := by decide +kernel
theorem d_M_write_219 : decode c_M_write 219 = .ok (.iinc 7 1, 3) := by decide +kernel
theorem d_M_write_222 : decode c_M_write 222 = .ok (.goto (-77), 3) := by decide +kernel
theorem d_M_write_225 : decode c_M_write 225 = .ok (.iload 6, 2) := by decide +kernel
theorem d_M_write_227 : decode c_M_write 227 = .ok (.ireturn, 1) := by decide +kernel
theorem d_M_told_0 : decode c_M_told 0 = .ok (.iload_n 1, 1) := by decide +kernel
theorem d_M_told_1 : decode c_M_told 1 = .ok (.tableswitch 123 0 9 #[55, 55, 61, 66, 71, 71, 88, 88, 98, 98], 55) := by decide +kernel
theorem d_M_told_56 : decode c_M_told 56 = .ok (.aload_n 0, 1) := by decide +kernel
theorem d_M_told_57 : decode c_M_told 57 = .ok (.iload_n 1, 1) := by decide +kernel
theorem d_M_told_58 : decode c_M_told 58 = .ok (.invokevirtual 113, 3) := by decide +kernel
theorem d_M_told_61 : decode c_M_told 61 = .ok (.ireturn, 1) := by decide +kernel
theorem d_M_told_62 : decode c_M_told 62 = .ok (.aload_n 0, 1) := by decide +kernel
theorem d_M_told_63 : decode c_M_told 63 = .ok (.getfield 119, 3) := by decide +kernel
theorem d_M_told_66 : decode c_M_told 66 = .ok (.ireturn, 1) := by decide +kernel
theorem d_M_told_67 : decode c_M_told 67 = .ok (.aload_n 0, 1) := by decide +kernel
theorem d_M_told_68 : decode c_M_told 68 = .ok (.getfield 179, 3) := by decide +kernel
theorem d_M_told_71 : decode c_M_told 71 = .ok (.ireturn, 1) := by decide +kernel
theorem d_M_told_72 : decode c_M_told 72 = .ok (.aload_n 0, 1) := by decide +kernel
theorem d_M_told_73 : decode c_M_told 73 = .ok (.getfield 44, 3) := by decide +kernel
theorem d_M_told_76 : decode c_M_told 76 = .ok (.iload_n 1, 1) := by decide +kernel
theorem d_M_told_77 : decode c_M_told 77 = .ok (.iconst 4, 1) := by decide +kernel
theorem d_M_told_78 : decode c_M_told 78 = .ok (.isub, 1) := by decide +kernel
theorem d_M_told_79 : decode c_M_told 79 = .ok (.baload, 1) := by decide +kernel
theorem d_M_told_80 : decode c_M_told 80 = .ok (.ifCond .eq 7, 3) := by decide +kernel
theorem d_M_told_83 : decode c_M_told 83 = .ok (.iconst 1, 1) := by decide +kernel
theorem d_M_told_84 : decode c_M_told 84 = .ok (.goto 4, 3) := by decide +kernel
theorem d_M_told_87 : decode c_M_told 87 = .ok (.iconst 0, 1) := by decide +kernel
theorem d_M_told_88 : decode c_M_told 88 = .ok (.ireturn, 1) := by decide +kernel
theorem d_M_told_89 : decode c_M_told 89 = .ok (.aload_n 0, 1) := by decide +kernel
theorem d_M_told_90 : decode c_M_told 90 = .ok (.getfield 47, 3) := by decide +kernel
theorem d_M_told_93 : decode c_M_told 93 = .ok (.iload_n 1, 1) := by decide +kernel
theorem d_M_told_94 : decode c_M_told 94 = .ok (.bipush 6, 2) := by decide +kernel
theorem d_M_told_96 : decode c_M_told 96 = .ok (.isub, 1) := by decide +kernel
theorem d_M_told_97 : decode c_M_told 97 = .ok (.iaload, 1) := by decide +kernel
theorem d_M_told_98 : decode c_M_told 98 = .ok (.ireturn, 1) := by decide +kernel
theorem d_M_told_99 : decode c_M_told 99 = .ok (.aload_n 0, 1) := by decide +kernel
theorem d_M_told_100 : decode c_M_told 100 = .ok (.getfield 44, 3) := by decide +kernel
theorem d_M_told_103 : decode c_M_told 103 = .ok (.iload_n 1, 1) := by decide +kernel
theorem d_M_told_104 : decode c_M_told 104 = .ok (.bipush 8, 2) := by decide +kernel
theorem d_M_told_106 : decode c_M_told 106 = .ok (.isub, 1) := by decide +kernel
theorem d_M_told_107 : decode c_M_told 107 = .ok (.baload, 1) := by decide +kernel
theorem d_M_told_108 : decode c_M_told 108 = .ok (.ifCond .eq 14, 3) := by decide +kernel
theorem d_M_told_111 : decode c_M_told 111 = .ok (.aload_n 0, 1) := by decide +kernel
theorem d_M_told_112 : decode c_M_told 112 = .ok (.iload_n 1, 1) := by decide +kernel
theorem d_M_told_113 : decode c_M_told 113 = .ok (.bipush 8, 2) := by decide +kernel
theorem d_M_told_115 : decode c_M_told 115 = .ok (.isub, 1) := by decide +kernel
theorem d_M_told_116 : decode c_M_told 116 = .ok (.invokevirtual 110, 3) := by decide +kernel
theorem d_M_told_119 : decode c_M_told 119 = .ok (.goto 4, 3) := by decide +kernel
theorem d_M_told_122 : decode c_M_told 122 = .ok (.iconst 0, 1) := by decide +kernel
theorem d_M_told_123 : decode c_M_told 123 = .ok (.ireturn, 1) := by decide +kernel
theorem d_M_told_124 : decode c_M_told 124 = .ok (.bipush (-2), 2) := by decide +kernel
theorem d_M_told_126 : decode c_M_told 126 = .ok (.ireturn, 1) := by decide +kernel
theorem d_M_digest_0 : decode c_M_digest 0 = .ok (.ldc2_w 190, 3) := by decide +kernel
theorem d_M_digest_3 : decode c_M_digest 3 = .ok (.lstore_n 1, 1) := by decide +kernel
theorem d_M_digest_4 : decode c_M_digest 4 = .ok (.iconst 0, 1) := by decide +kernel
theorem d_M_digest_5 : decode c_M_digest 5 = .ok (.istore_n 3, 1) := by decide +kernel
theorem d_M_digest_6 : decode c_M_digest 6 = .ok (.iload_n 3, 1) := by decide +kernel
theorem d_M_digest_7 : decode c_M_digest 7 = .ok (.bipush 10, 2) := by decide +kernel
theorem d_M_digest_9 : decode c_M_digest 9 = .ok (.if_icmp .ge 31, 3) := by decide +kernel
theorem d_M_digest_12 : decode c_M_digest 12 = .ok (.iload_n 3, 1) := by decide +kernel
theorem d_M_digest_13 : decode c_M_digest 13 = .ok (.iconst 3, 1) := by decide +kernel
theorem d_M_digest_14 : decode c_M_digest 14 = .ok (.if_icmp .ne 7, 3) := by decide +kernel
theorem d_M_digest_17 : decode c_M_digest 17 = .ok (.lload_n 1, 1) := by decide +kernel
theorem d_M_digest_18 : decode c_M_digest 18 = .ok (.goto 15, 3) := by decide +kernel
theorem d_M_digest_21 : decode c_M_digest 21 = .ok (.ldc2_w 192, 3) := by decide +kernel
theorem d_M_digest_24 : decode c_M_digest 24 = .ok (.lload_n 1, 1) := by decide +kernel
theorem d_M_digest_25 : decode c_M_digest 25 = .ok (.lmul, 1) := by decide +kernel
theorem d_M_digest_26 : decode c_M_digest 26 = .ok (.aload_n 0, 1) := by decide +kernel
theorem d_M_digest_27 : decode c_M_digest 27 = .ok (.iload_n 3, 1) := by decide +kernel
theorem d_M_digest_28 : decode c_M_digest 28 = .ok (.invokevirtual 194, 3) := by decide +kernel
theorem d_M_digest_31 : decode c_M_digest 31 = .ok (.i2l, 1) := by decide +kernel
theorem d_M_digest_32 : decode c_M_digest 32 = .ok (.ladd, 1) := by decide +kernel
theorem d_M_digest_33 : decode c_M_digest 33 = .ok (.lstore_n 1, 1) := by decide +kernel
theorem d_M_digest_34 : decode c_M_digest 34 = .ok (.iinc 3 1, 3) := by decide +kernel
theorem d_M_digest_37 : decode c_M_digest 37 = .ok (.goto (-31), 3) := by decide +kernel
theorem d_M_digest_40 : decode c_M_digest 40 = .ok (.iconst 0, 1) := by decide +kernel
theorem d_M_digest_41 : decode c_M_digest 41 = .ok (.istore_n 3, 1) := by decide +kernel
theorem d_M_digest_42 : decode c_M_digest 42 = .ok (.iload_n 3, 1) := by decide +kernel
theorem d_M_digest_43 : decode c_M_digest 43 = .ok (.iconst 2, 1) := by decide +kernel
theorem d_M_digest_44 : decode c_M_digest 44 = .ok (.if_icmp .ge 189, 3) := by decide +kernel
theorem d_M_digest_47 : decode c_M_digest 47 = .ok (.aload_n 0, 1) := by decide +kernel
theorem d_M_digest_48 : decode c_M_digest 48 = .ok (.getfield 44, 3) := by decide +kernel
theorem d_M_digest_51 : decode c_M_digest 51 = .ok (.iload_n 3, 1) := by decide +kernel
theorem d_M_digest_52 : decode c_M_digest 52 = .ok (.baload, 1) := by decide +kernel
theorem d_M_digest_53 : decode c_M_digest 53 = .ok (.ifCond .eq 174, 3) := by decide +kernel
theorem d_M_digest_56 : decode c_M_digest 56 = .ok (.iconst 0, 1) := by decide +kernel
theorem d_M_digest_57 : decode c_M_digest 57 = .ok (.istore 4, 2) := by decide +kernel
theorem d_M_digest_59 : decode c_M_digest 59 = .ok (.iload 4, 2) := by decide +kernel
theorem d_M_digest_61 : decode c_M_digest 61 = .ok (.bipush 8, 2) := by decide +kernel
theorem d_M_digest_63 : decode c_M_digest 63 = .ok (.if_icmp .ge 136, 3) := by decide +kernel
theorem d_M_digest_66 : decode c_M_digest 66 = .ok (.iconst 0, 1) := by decide +kernel
theorem d_M_digest_67 : decode c_M_digest 67 = .ok (.istore 5, 2) := by decide +kernel
theorem d_M_digest_69 : decode c_M_digest 69 = .ok (.iload 5, 2) := by decide +kernel
theorem d_M_digest_71 : decode c_M_digest 71 = .ok (.bipush 14, 2) := by decide +kernel
theorem d_M_digest_73 : decode c_M_digest 73 = .ok (.if_icmp .ge 44, 3) := by decide +kernel
theorem d_M_digest_76 : decode c_M_digest 76 = .ok (.iload 5, 2) := by decide +kernel
theorem d_M_digest_78 : decode c_M_digest 78 = .ok (.bipush 8, 2) := by decide +kernel
theorem d_M_digest_80 : decode c_M_digest 80 = .ok (.if_icmp .eq 10, 3) := by decide +kernel
theorem d_M_digest_83 : decode c_M_digest 83 = .ok (.iload 5, 2) := by decide +kernel
theorem d_M_digest_85 : decode c_M_digest 85 = .ok (.bipush 9, 2) := by decide +kernel
theorem d_M_digest_87 : decode c_M_digest 87 = .ok (.if_icmp .ne 7, 3) := by decide +kernel
theorem d_M_digest_90 : decode c_M_digest 90 = .ok (.lload_n 1, 1) := by decide +kernel
theorem d_M_digest_91 : decode c_M_digest 91 = .ok (.goto 19, 3) := by decide +kernel
theorem d_M_digest_94 : decode c_M_digest 94 = .ok (.ldc2_w 192, 3) := by decide +kernel
theorem d_M_digest_97 : decode c_M_digest 97 = .ok (.lload_n 1, 1) := by decide +kernel
theorem d_M_digest_98 : decode c_M_digest 98 = .ok (.lmul, 1) := by decide +kernel
theorem d_M_digest_99 : decode c_M_digest 99 = .ok (.aload_n 0, 1) := by decide +kernel
theorem d_M_digest_100 : decode c_M_digest 100 = .ok (.iload_n 3, 1) := by decide +kernel
theorem d_M_digest_101 : decode c_M_digest 101 = .ok (.iload 4, 2) := by decide +kernel
theorem d_M_digest_103 : decode c_M_digest 103 = .ok (.iload 5, 2) := by decide +kernel
theorem d_M_digest_105 : decode c_M_digest 105 = .ok (.invokevirtual 197, 3) := by decide +kernel
theorem d_M_digest_108 : decode c_M_digest 108 = .ok (.i2l, 1) := by decide +kernel
theorem d_M_digest_109 : decode c_M_digest 109 = .ok (.ladd, 1) := by decide +kernel
theorem d_M_digest_110 : decode c_M_digest 110 = .ok (.lstore_n 1, 1) := by decide +kernel
theorem d_M_digest_111 : decode c_M_digest 111 = .ok (.iinc 5 1, 3) := by decide +kernel
theorem d_M_digest_114 : decode c_M_digest 114 = .ok (.goto (-45), 3) := by decide +kernel
theorem d_M_digest_117 : decode c_M_digest 117 = .ok (.iconst 0, 1) := by decide +kernel
theorem d_M_digest_118 : decode c_M_digest 118 = .ok (.istore 5, 2) := by decide +kernel
theorem d_M_digest_120 : decode c_M_digest 120 = .ok (.iload 5, 2) := by decide +kernel
theorem d_M_digest_122 : decode c_M_digest 122 = .ok (.aload_n 0, 1) := by decide +kernel
theorem d_M_digest_123 : decode c_M_digest 123 = .ok (.getfield 7, 3) := by decide +kernel
theorem d_M_digest_126 : decode c_M_digest 126 = .ok (.bipush 8, 2) := by decide +kernel
theorem d_M_digest_128 : decode c_M_digest 128 = .ok (.iload_n 3, 1) := by decide +kernel
theorem d_M_digest_129 : decode c_M_digest 129 = .ok (.imul, 1) := by decide +kernel
theorem d_M_digest_130 : decode c_M_digest 130 = .ok (.iload 4, 2) := by decide +kernel
theorem d_M_digest_132 : decode c_M_digest 132 = .ok (.iadd, 1) := by decide +kernel
theorem d_M_digest_133 : decode c_M_digest 133 = .ok (.iaload, 1) := by decide +kernel
theorem d_M_digest_134 : decode c_M_digest 134 = .ok (.if_icmp .ge 59, 3) := by decide +kernel
theorem d_M_digest_137 : decode c_M_digest 137 = .ok (.bipush 12, 2) := by decide +kernel
theorem d_M_digest_139 : decode c_M_digest 139 = .ok (.bipush 8, 2) := by decide +kernel
theorem d_M_digest_141 : decode c_M_digest 141 = .ok (.iload_n 3, 1) := by decide +kernel
theorem d_M_digest_142 : decode c_M_digest 142 = .ok (.imul, 1) := by decide +kernel
theorem d_M_digest_143 : decode c_M_digest 143 = .ok (.iload 4, 2) := by decide +kernel
theorem d_M_digest_145 : decode c_M_digest 145 = .ok (.iadd, 1) := by decide +kernel
theorem d_M_digest_146 : decode c_M_digest 146 = .ok (.imul, 1) := by decide +kernel
theorem d_M_digest_147 : decode c_M_digest 147 = .ok (.iload 5, 2) := by decide +kernel
theorem d_M_digest_149 : decode c_M_digest 149 = .ok (.iadd, 1) := by decide +kernel
theorem d_M_digest_150 : decode c_M_digest 150 = .ok (.istore 6, 2) := by decide +kernel
theorem d_M_digest_152 : decode c_M_digest 152 = .ok (.aload_n 0, 1) := by decide +kernel
theorem d_M_digest_153 : decode c_M_digest 153 = .ok (.getfield 22, 3) := by decide +kernel
theorem d_M_digest_156 : decode c_M_digest 156 = .ok (.iload 6, 2) := by decide +kernel
theorem d_M_digest_158 : decode c_M_digest 158 = .ok (.baload, 1) := by decide +kernel
theorem d_M_digest_159 : decode c_M_digest 159 = .ok (.ifCond .eq 28, 3) := by decide +kernel
theorem d_M_digest_162 : decode c_M_digest 162 = .ok (.ldc2_w 192, 3) := by decide +kernel
theorem d_M_digest_165 : decode c_M_digest 165 = .ok (.lload_n 1, 1) := by decide +kernel
theorem d_M_digest_166 : decode c_M_digest 166 = .ok (.lmul, 1) := by decide +kernel
theorem d_M_digest_167 : decode c_M_digest 167 = .ok (.iload 5, 2) := by decide +kernel
theorem d_M_digest_169 : decode c_M_digest 169 = .ok (.i2l, 1) := by decide +kernel
theorem d_M_digest_170 : decode c_M_digest 170 = .ok (.ladd, 1) := by decide +kernel
theorem d_M_digest_171 : decode c_M_digest 171 = .ok (.lstore_n 1, 1) := by decide +kernel
theorem d_M_digest_172 : decode c_M_digest 172 = .ok (.ldc2_w 192, 3) := by decide +kernel
theorem d_M_digest_175 : decode c_M_digest 175 = .ok (.lload_n 1, 1) := by decide +kernel
theorem d_M_digest_176 : decode c_M_digest 176 = .ok (.lmul, 1) := by decide +kernel
theorem d_M_digest_177 : decode c_M_digest 177 = .ok (.aload_n 0, 1) := by decide +kernel
theorem d_M_digest_178 : decode c_M_digest 178 = .ok (.getfield 19, 3) := by decide +kernel
theorem d_M_digest_181 : decode c_M_digest 181 = .ok (.iload 6, 2) := by decide +kernel
theorem d_M_digest_183 : decode c_M_digest 183 = .ok (.iaload, 1) := by decide +kernel
theorem d_M_digest_184 : decode c_M_digest 184 = .ok (.i2l, 1) := by decide +kernel
theorem d_M_digest_185 : decode c_M_digest 185 = .ok (.ladd, 1) := by decide +kernel
theorem d_M_digest_186 : decode c_M_digest 186 = .ok (.lstore_n 1, 1) := by decide +kernel
theorem d_M_digest_187 : decode c_M_digest 187 = .ok (.iinc 5 1, 3) := by decide +kernel
theorem d_M_digest_190 : decode c_M_digest 190 = .ok (.goto (-70), 3) := by decide +kernel
theorem d_M_digest_193 : decode c_M_digest 193 = .ok (.iinc 4 1, 3) := by decide +kernel
theorem d_M_digest_196 : decode c_M_digest 196 = .ok (.goto (-137), 3) := by decide +kernel
theorem d_M_digest_199 : decode c_M_digest 199 = .ok (.ldc2_w 192, 3) := by decide +kernel
theorem d_M_digest_202 : decode c_M_digest 202 = .ok (.lload_n 1, 1) := by decide +kernel
theorem d_M_digest_203 : decode c_M_digest 203 = .ok (.lmul, 1) := by decide +kernel
theorem d_M_digest_204 : decode c_M_digest 204 = .ok (.aload_n 0, 1) := by decide +kernel
theorem d_M_digest_205 : decode c_M_digest 205 = .ok (.iload_n 3, 1) := by decide +kernel
theorem d_M_digest_206 : decode c_M_digest 206 = .ok (.iconst (-1), 1) := by decide +kernel
theorem d_M_digest_207 : decode c_M_digest 207 = .ok (.iconst 0, 1) := by decide +kernel
theorem d_M_digest_208 : decode c_M_digest 208 = .ok (.invokevirtual 158, 3) := by decide +kernel
theorem d_M_digest_211 : decode c_M_digest 211 = .ok (.ladd, 1) := by decide +kernel
theorem d_M_digest_212 : decode c_M_digest 212 = .ok (.lstore_n 1, 1) := by decide +kernel
theorem d_M_digest_213 : decode c_M_digest 213 = .ok (.ldc2_w 192, 3) := by decide +kernel
theorem d_M_digest_216 : decode c_M_digest 216 = .ok (.lload_n 1, 1) := by decide +kernel
theorem d_M_digest_217 : decode c_M_digest 217 = .ok (.lmul, 1) := by decide +kernel
theorem d_M_digest_218 : decode c_M_digest 218 = .ok (.aload_n 0, 1) := by decide +kernel
theorem d_M_digest_219 : decode c_M_digest 219 = .ok (.iload_n 3, 1) := by decide +kernel
theorem d_M_digest_220 : decode c_M_digest 220 = .ok (.iconst (-1), 1) := by decide +kernel
theorem d_M_digest_221 : decode c_M_digest 221 = .ok (.iconst 1, 1) := by decide +kernel
theorem d_M_digest_222 : decode c_M_digest 222 = .ok (.invokevirtual 158, 3) := by decide +kernel
theorem d_M_digest_225 : decode c_M_digest 225 = .ok (.ladd, 1) := by decide +kernel
theorem d_M_digest_226 : decode c_M_digest 226 = .ok (.lstore_n 1, 1) := by decide +kernel
theorem d_M_digest_227 : decode c_M_digest 227 = .ok (.iinc 3 1, 3) := by decide +kernel
theorem d_M_digest_230 : decode c_M_digest 230 = .ok (.goto (-188), 3) := by decide +kernel
theorem d_M_digest_233 : decode c_M_digest 233 = .ok (.lload_n 1, 1) := by decide +kernel
theorem d_M_digest_234 : decode c_M_digest 234 = .ok (.lreturn, 1) := by decide +kernel
theorem d_A_abs_0 : decode c_A_abs 0 = .ok (.iload_n 0, 1) := by decide +kernel
theorem d_A_abs_1 : decode c_A_abs 1 = .ok (.ifCond .ge 8, 3) := by decide +kernel
theorem d_A_abs_4 : decode c_A_abs 4 = .ok (.iload_n 0, 1) := by decide +kernel
theorem d_A_abs_5 : decode c_A_abs 5 = .ok (.ineg, 1) := by decide +kernel
theorem d_A_abs_6 : decode c_A_abs 6 = .ok (.goto 4, 3) := by decide +kernel
theorem d_A_abs_9 : decode c_A_abs 9 = .ok (.iload_n 0, 1) := by decide +kernel
theorem d_A_abs_10 : decode c_A_abs 10 = .ok (.ireturn, 1) := by decide +kernel
theorem d_A_max_0 : decode c_A_max 0 = .ok (.iload_n 0, 1) := by decide +kernel
theorem d_A_max_1 : decode c_A_max 1 = .ok (.iload_n 1, 1) := by decide +kernel
theorem d_A_max_2 : decode c_A_max 2 = .ok (.if_icmp .lt 7, 3) := by decide +kernel
theorem d_A_max_5 : decode c_A_max 5 = .ok (.iload_n 0, 1) := by decide +kernel
theorem d_A_max_6 : decode c_A_max 6 = .ok (.goto 4, 3) := by decide +kernel
theorem d_A_max_9 : decode c_A_max 9 = .ok (.iload_n 1, 1) := by decide +kernel
theorem d_A_max_10 : decode c_A_max 10 = .ok (.ireturn, 1) := by decide +kernel
theorem d_A_min_0 : decode c_A_min 0 = .ok (.iload_n 0, 1) := by decide +kernel
theorem d_A_min_1 : decode c_A_min 1 = .ok (.iload_n 1, 1) := by decide +kernel
theorem d_A_min_2 : decode c_A_min 2 = .ok (.if_icmp .gt 7, 3) := by decide +kernel
theorem d_A_min_5 : decode c_A_min 5 = .ok (.iload_n 0, 1) := by decide +kernel
theorem d_A_min_6 : decode c_A_min 6 = .ok (.goto 4, 3) := by decide +kernel
theorem d_A_min_9 : decode c_A_min 9 = .ok (.iload_n 1, 1) := by decide +kernel
theorem d_A_min_10 : decode c_A_min 10 = .ok (.ireturn, 1) := by decide +kernel
theorem d_J_fill_0 : decode c_J_fill 0 = .ok (.iconst 0, 1) := by decide +kernel
theorem d_J_fill_1 : decode c_J_fill 1 = .ok (.istore_n 2, 1) := by decide +kernel
theorem d_J_fill_2 : decode c_J_fill 2 = .ok (.aload_n 0, 1) := by decide +kernel
theorem d_J_fill_3 : decode c_J_fill 3 = .ok (.arraylength, 1) := by decide +kernel
theorem d_J_fill_4 : decode c_J_fill 4 = .ok (.istore_n 3, 1) := by decide +kernel
theorem d_J_fill_5 : decode c_J_fill 5 = .ok (.iload_n 2, 1) := by decide +kernel
theorem d_J_fill_6 : decode c_J_fill 6 = .ok (.iload_n 3, 1) := by decide +kernel
theorem d_J_fill_7 : decode c_J_fill 7 = .ok (.if_icmp .ge 13, 3) := by decide +kernel
theorem d_J_fill_10 : decode c_J_fill 10 = .ok (.aload_n 0, 1) := by decide +kernel
theorem d_J_fill_11 : decode c_J_fill 11 = .ok (.iload_n 2, 1) := by decide +kernel
theorem d_J_fill_12 : decode c_J_fill 12 = .ok (.iload_n 1, 1) := by decide +kernel
theorem d_J_fill_13 : decode c_J_fill 13 = .ok (.iastore, 1) := by decide +kernel
theorem d_J_fill_14 : decode c_J_fill 14 = .ok (.iinc 2 1, 3) := by decide +kernel
theorem d_J_fill_17 : decode c_J_fill 17 = .ok (.goto (-12), 3) := by decide +kernel
theorem d_J_fill_20 : decode c_J_fill 20 = .ok (.return_, 1) := by decide +kernel
theorem d_L_law_0 : decode code 0 = .ok (.new 7, 3) := by decide +kernel
theorem d_L_law_3 : decode code 3 = .ok (.dup, 1) := by decide +kernel
theorem d_L_law_4 : decode code 4 = .ok (.invokespecial 9, 3) := by decide +kernel
theorem d_L_law_7 : decode code 7 = .ok (.astore_n 1, 1) := by decide +kernel
theorem d_L_law_8 : decode code 8 = .ok (.new 10, 3) := by decide +kernel
theorem d_L_law_11 : decode code 11 = .ok (.dup, 1) := by decide +kernel
theorem d_L_law_12 : decode code 12 = .ok (.invokespecial 12, 3) := by decide +kernel
theorem d_L_law_15 : decode code 15 = .ok (.astore_n 2, 1) := by decide +kernel
theorem d_L_law_16 : decode code 16 = .ok (.iconst 0, 1) := by decide +kernel
theorem d_L_law_17 : decode code 17 = .ok (.istore_n 3, 1) := by decide +kernel
theorem d_L_law_18 : decode code 18 = .ok (.iload_n 3, 1) := by decide +kernel
theorem d_L_law_19 : decode code 19 = .ok (.aload_n 0, 1) := by decide +kernel
theorem d_L_law_20 : decode code 20 = .ok (.arraylength, 1) := by decide +kernel
theorem d_L_law_21 : decode code 21 = .ok (.bipush 7, 2) := by decide +kernel
theorem d_L_law_23 : decode code 23 = .ok (.isub, 1) := by decide +kernel
theorem d_L_law_24 : decode code 24 = .ok (.if_icmp .gt 1065, 3) := by decide +kernel
theorem d_L_law_27 : decode code 27 = .ok (.aload_n 0, 1) := by decide +kernel
theorem d_L_law_28 : decode code 28 = .ok (.iload_n 3, 1) := by decide +kernel
theorem d_L_law_29 : decode code 29 = .ok (.iaload, 1) := by decide +kernel
theorem d_L_law_30 : decode code 30 = .ok (.bipush 31, 2) := by decide +kernel
theorem d_L_law_32 : decode code 32 = .ok (.iand, 1) := by decide +kernel
theorem d_L_law_33 : decode code 33 = .ok (.tableswitch 1050 0 22 #[107, 170, 245, 298, 321, 344, 377, 430, 473, 516, 560, 603, 626, 659, 692, 735, 778, 801, 854, 897, 960, 1013, 1036], 107) := by decide +kernel
theorem d_L_law_140 : decode code 140 = .ok (.aload_n 1, 1) := by decide +kernel
theorem d_L_law_141 : decode code 141 = .ok (.aload_n 0, 1) := by decide +kernel
theorem d_L_law_142 : decode code 142 = .ok (.iload_n 3, 1) := by decide +kernel
theorem d_L_law_143 : decode code 143 = .ok (.iconst 1, 1) := by decide +kernel
theorem d_L_law_144 : decode code 144 = .ok (.iadd, 1) := by decide +kernel
theorem d_L_law_145 : decode code 145 = .ok (.iaload, 1) := by decide +kernel
theorem d_L_law_146 : decode code 146 = .ok (.aload_n 0, 1) := by decide +kernel
theorem d_L_law_147 : decode code 147 = .ok (.iload_n 3, 1) := by decide +kernel
theorem d_L_law_148 : decode code 148 = .ok (.iconst 2, 1) := by decide +kernel
theorem d_L_law_149 : decode code 149 = .ok (.iadd, 1) := by decide +kernel
theorem d_L_law_150 : decode code 150 = .ok (.iaload, 1) := by decide +kernel
theorem d_L_law_151 : decode code 151 = .ok (.aload_n 0, 1) := by decide +kernel
theorem d_L_law_152 : decode code 152 = .ok (.iload_n 3, 1) := by decide +kernel
theorem d_L_law_153 : decode code 153 = .ok (.iconst 3, 1) := by decide +kernel
theorem d_L_law_154 : decode code 154 = .ok (.iadd, 1) := by decide +kernel
theorem d_L_law_155 : decode code 155 = .ok (.iaload, 1) := by decide +kernel
theorem d_L_law_156 : decode code 156 = .ok (.aload_n 0, 1) := by decide +kernel
theorem d_L_law_157 : decode code 157 = .ok (.iload_n 3, 1) := by decide +kernel
theorem d_L_law_158 : decode code 158 = .ok (.iconst 4, 1) := by decide +kernel
theorem d_L_law_159 : decode code 159 = .ok (.iadd, 1) := by decide +kernel
theorem d_L_law_160 : decode code 160 = .ok (.iaload, 1) := by decide +kernel
theorem d_L_law_161 : decode code 161 = .ok (.aload_n 0, 1) := by decide +kernel
theorem d_L_law_162 : decode code 162 = .ok (.iload_n 3, 1) := by decide +kernel
theorem d_L_law_163 : decode code 163 = .ok (.iconst 5, 1) := by decide +kernel
theorem d_L_law_164 : decode code 164 = .ok (.iadd, 1) := by decide +kernel
theorem d_L_law_165 : decode code 165 = .ok (.iaload, 1) := by decide +kernel
theorem d_L_law_166 : decode code 166 = .ok (.invokevirtual 13, 3) := by decide +kernel
theorem d_L_law_169 : decode code 169 = .ok (.aload_n 2, 1) := by decide +kernel
theorem d_L_law_170 : decode code 170 = .ok (.aload_n 0, 1) := by decide +kernel
theorem d_L_law_171 : decode code 171 = .ok (.iload_n 3, 1) := by decide +kernel
theorem d_L_law_172 : decode code 172 = .ok (.iconst 1, 1) := by decide +kernel
theorem d_L_law_173 : decode code 173 = .ok (.iadd, 1) := by decide +kernel
theorem d_L_law_174 : decode code 174 = .ok (.iaload, 1) := by decide +kernel
theorem d_L_law_175 : decode code 175 = .ok (.aload_n 0, 1) := by decide +kernel
theorem d_L_law_176 : decode code 176 = .ok (.iload_n 3, 1) := by decide +kernel
theorem d_L_law_177 : decode code 177 = .ok (.iconst 2, 1) := by decide +kernel
theorem d_L_law_178 : decode code 178 = .ok (.iadd, 1) := by decide +kernel
theorem d_L_law_179 : decode code 179 = .ok (.iaload, 1) := by decide +kernel
theorem d_L_law_180 : decode code 180 = .ok (.aload_n 0, 1) := by decide +kernel
theorem d_L_law_181 : decode code 181 = .ok (.iload_n 3, 1) := by decide +kernel
theorem d_L_law_182 : decode code 182 = .ok (.iconst 3, 1) := by decide +kernel
theorem d_L_law_183 : decode code 183 = .ok (.iadd, 1) := by decide +kernel
theorem d_L_law_184 : decode code 184 = .ok (.iaload, 1) := by decide +kernel
theorem d_L_law_185 : decode code 185 = .ok (.aload_n 0, 1) := by decide +kernel
theorem d_L_law_186 : decode code 186 = .ok (.iload_n 3, 1) := by decide +kernel
theorem d_L_law_187 : decode code 187 = .ok (.iconst 4, 1) := by decide +kernel
theorem d_L_law_188 : decode code 188 = .ok (.iadd, 1) := by decide +kernel
theorem d_L_law_189 : decode code 189 = .ok (.iaload, 1) := by decide +kernel
theorem d_L_law_190 : decode code 190 = .ok (.aload_n 0, 1) := by decide +kernel
theorem d_L_law_191 : decode code 191 = .ok (.iload_n 3, 1) := by decide +kernel
theorem d_L_law_192 : decode code 192 = .ok (.iconst 5, 1) := by decide +kernel
theorem d_L_law_193 : decode code 193 = .ok (.iadd, 1) := by decide +kernel
theorem d_L_law_194 : decode code 194 = .ok (.iaload, 1) := by decide +kernel
theorem d_L_law_195 : decode code 195 = .ok (.invokevirtual 17, 3) := by decide +kernel
theorem d_L_law_198 : decode code 198 = .ok (.if_icmp .eq 885, 3) := by decide +kernel
theorem d_L_law_201 : decode code 201 = .ok (.iconst 0, 1) := by decide +kernel
theorem d_L_law_202 : decode code 202 = .ok (.ireturn, 1) := by decide +kernel
theorem d_L_law_203 : decode code 203 = .ok (.aload_n 1, 1) := by decide +kernel
theorem d_L_law_204 : decode code 204 = .ok (.aload_n 0, 1) := by decide +kernel
theorem d_L_law_205 : decode code 205 = .ok (.iload_n 3, 1) := by decide +kernel
theorem d_L_law_206 : decode code 206 = .ok (.iconst 1, 1) := by decide +kernel
theorem d_L_law_207 : decode code 207 = .ok (.iadd, 1) := by decide +kernel
theorem d_L_law_208 : decode code 208 = .ok (.iaload, 1) := by decide +kernel
theorem d_L_law_209 : decode code 209 = .ok (.aload_n 0, 1) := by decide +kernel
theorem d_L_law_210 : decode code 210 = .ok (.iload_n 3, 1) := by decide +kernel
theorem d_L_law_211 : decode code 211 = .ok (.iconst 2, 1) := by decide +kernel
theorem d_L_law_212 : decode code 212 = .ok (.iadd, 1) := by decide +kernel
theorem d_L_law_213 : decode code 213 = .ok (.iaload, 1) := by decide +kernel
theorem d_L_law_214 : decode code 214 = .ok (.aload_n 0, 1) := by decide +kernel
theorem d_L_law_215 : decode code 215 = .ok (.iload_n 3, 1) := by decide +kernel
theorem d_L_law_216 : decode code 216 = .ok (.iconst 3, 1) := by decide +kernel
theorem d_L_law_217 : decode code 217 = .ok (.iadd, 1) := by decide +kernel
theorem d_L_law_218 : decode code 218 = .ok (.iaload, 1) := by decide +kernel
theorem d_L_law_219 : decode code 219 = .ok (.aload_n 0, 1) := by decide +kernel
theorem d_L_law_220 : decode code 220 = .ok (.iload_n 3, 1) := by decide +kernel
theorem d_L_law_221 : decode code 221 = .ok (.iconst 4, 1) := by decide +kernel
theorem d_L_law_222 : decode code 222 = .ok (.iadd, 1) := by decide +kernel
theorem d_L_law_223 : decode code 223 = .ok (.iaload, 1) := by decide +kernel
theorem d_L_law_224 : decode code 224 = .ok (.aload_n 0, 1) := by decide +kernel
theorem d_L_law_225 : decode code 225 = .ok (.iload_n 3, 1) := by decide +kernel
theorem d_L_law_226 : decode code 226 = .ok (.iconst 5, 1) := by decide +kernel
theorem d_L_law_227 : decode code 227 = .ok (.iadd, 1) := by decide +kernel
theorem d_L_law_228 : decode code 228 = .ok (.iaload, 1) := by decide +kernel
theorem d_L_law_229 : decode code 229 = .ok (.aload_n 0, 1) := by decide +kernel
theorem d_L_law_230 : decode code 230 = .ok (.iload_n 3, 1) := by decide +kernel
theorem d_L_law_231 : decode code 231 = .ok (.bipush 6, 2) := by decide +kernel
theorem d_L_law_233 : decode code 233 = .ok (.iadd, 1) := by decide +kernel
theorem d_L_law_234 : decode code 234 = .ok (.iaload, 1) := by decide +kernel
theorem d_L_law_235 : decode code 235 = .ok (.invokevirtual 18, 3) := by decide +kernel
theorem d_L_law_238 : decode code 238 = .ok (.aload_n 2, 1) := by decide +kernel
theorem d_L_law_239 : decode code 239 = .ok (.aload_n 0, 1) := by decide +kernel
theorem d_L_law_240 : decode code 240 = .ok (.iload_n 3, 1) := by decide +kernel
theorem d_L_law_241 : decode code 241 = .ok (.iconst 1, 1) := by decide +kernel
theorem d_L_law_242 : decode code 242 = .ok (.iadd, 1) := by decide +kernel
theorem d_L_law_243 : decode code 243 = .ok (.iaload, 1) := by decide +kernel
theorem d_L_law_244 : decode code 244 = .ok (.aload_n 0, 1) := by decide +kernel
theorem d_L_law_245 : decode code 245 = .ok (.iload_n 3, 1) := by decide +kernel
theorem d_L_law_246 : decode code 246 = .ok (.iconst 2, 1) := by decide +kernel
theorem d_L_law_247 : decode code 247 = .ok (.iadd, 1) := by decide +kernel
theorem d_L_law_248 : decode code 248 = .ok (.iaload, 1) := by decide +kernel
theorem d_L_law_249 : decode code 249 = .ok (.aload_n 0, 1) := by decide +kernel
theorem d_L_law_250 : decode code 250 = .ok (.iload_n 3, 1) := by decide +kernel
theorem d_L_law_251 : decode code 251 = .ok (.iconst 3, 1) := by decide +kernel
theorem d_L_law_252 : decode code 252 = .ok (.iadd, 1) := by decide +kernel
theorem d_L_law_253 : decode code 253 = .ok (.iaload, 1) := by decide +kernel
theorem d_L_law_254 : decode code 254 = .ok (.aload_n 0, 1) := by decide +kernel
theorem d_L_law_255 : decode code 255 = .ok (.iload_n 3, 1) := by decide +kernel
theorem d_L_law_256 : decode code 256 = .ok (.iconst 4, 1) := by decide +kernel
theorem d_L_law_257 : decode code 257 = .ok (.iadd, 1) := by decide +kernel
theorem d_L_law_258 : decode code 258 = .ok (.iaload, 1) := by decide +kernel
theorem d_L_law_259 : decode code 259 = .ok (.aload_n 0, 1) := by decide +kernel
theorem d_L_law_260 : decode code 260 = .ok (.iload_n 3, 1) := by decide +kernel
theorem d_L_law_261 : decode code 261 = .ok (.iconst 5, 1) := by decide +kernel
theorem d_L_law_262 : decode code 262 = .ok (.iadd, 1) := by decide +kernel
theorem d_L_law_263 : decode code 263 = .ok (.iaload, 1) := by decide +kernel
theorem d_L_law_264 : decode code 264 = .ok (.aload_n 0, 1) := by decide +kernel
theorem d_L_law_265 : decode code 265 = .ok (.iload_n 3, 1) := by decide +kernel
theorem d_L_law_266 : decode code 266 = .ok (.bipush 6, 2) := by decide +kernel
theorem d_L_law_268 : decode code 268 = .ok (.iadd, 1) := by decide +kernel
theorem d_L_law_269 : decode code 269 = .ok (.iaload, 1) := by decide +kernel
theorem d_L_law_270 : decode code 270 = .ok (.invokevirtual 22, 3) := by decide +kernel
theorem d_L_law_273 : decode code 273 = .ok (.if_icmp .eq 810, 3) := by decide +kernel
theorem d_L_law_276 : decode code 276 = .ok (.iconst 0, 1) := by decide +kernel
theorem d_L_law_277 : decode code 277 = .ok (.ireturn, 1) := by decide +kernel
theorem d_L_law_278 : decode code 278 = .ok (.aload_n 1, 1) := by decide +kernel
theorem d_L_law_279 : decode code 279 = .ok (.aload_n 0, 1) := by decide +kernel
theorem d_L_law_280 : decode code 280 = .ok (.iload_n 3, 1) := by decide +kernel
theorem d_L_law_281 : decode code 281 = .ok (.iconst 1, 1) := by decide +kernel
theorem d_L_law_282 : decode code 282 = .ok (.iadd, 1) := by decide +kernel
theorem d_L_law_283 : decode code 283 = .ok (.iaload, 1) := by decide +kernel
theorem d_L_law_284 : decode code 284 = .ok (.aload_n 0, 1) := by decide +kernel
theorem d_L_law_285 : decode code 285 = .ok (.iload_n 3, 1) := by decide +kernel
theorem d_L_law_286 : decode code 286 = .ok (.iconst 2, 1) := by decide +kernel
theorem d_L_law_287 : decode code 287 = .ok (.iadd, 1) := by decide +kernel
theorem d_L_law_288 : decode code 288 = .ok (.iaload, 1) := by decide +kernel
theorem d_L_law_289 : decode code 289 = .ok (.aload_n 0, 1) := by decide +kernel
theorem d_L_law_290 : decode code 290 = .ok (.iload_n 3, 1) := by decide +kernel
theorem d_L_law_291 : decode code 291 = .ok (.iconst 3, 1) := by decide +kernel
theorem d_L_law_292 : decode code 292 = .ok (.iadd, 1) := by decide +kernel
theorem d_L_law_293 : decode code 293 = .ok (.iaload, 1) := by decide +kernel
theorem d_L_law_294 : decode code 294 = .ok (.aload_n 0, 1) := by decide +kernel
theorem d_L_law_295 : decode code 295 = .ok (.iload_n 3, 1) := by decide +kernel
theorem d_L_law_296 : decode code 296 = .ok (.iconst 4, 1) := by decide +kernel
theorem d_L_law_297 : decode code 297 = .ok (.iadd, 1) := by decide +kernel
theorem d_L_law_298 : decode code 298 = .ok (.iaload, 1) := by decide +kernel
theorem d_L_law_299 : decode code 299 = .ok (.invokevirtual 23, 3) := by decide +kernel
theorem d_L_law_302 : decode code 302 = .ok (.aload_n 2, 1) := by decide +kernel
theorem d_L_law_303 : decode code 303 = .ok (.aload_n 0, 1) := by decide +kernel
theorem d_L_law_304 : decode code 304 = .ok (.iload_n 3, 1) := by decide +kernel
theorem d_L_law_305 : decode code 305 = .ok (.iconst 1, 1) := by decide +kernel
theorem d_L_law_306 : decode code 306 = .ok (.iadd, 1) := by decide +kernel
theorem d_L_law_307 : decode code 307 = .ok (.iaload, 1) := by decide +kernel
theorem d_L_law_308 : decode code 308 = .ok (.aload_n 0, 1) := by decide +kernel
theorem d_L_law_309 : decode code 309 = .ok (.iload_n 3, 1) := by decide +kernel
theorem d_L_law_310 : decode code 310 = .ok (.iconst 2, 1) := by decide +kernel
theorem d_L_law_311 : decode code 311 = .ok (.iadd, 1) := by decide +kernel
theorem d_L_law_312 : decode code 312 = .ok (.iaload, 1) := by decide +kernel
theorem d_L_law_313 : decode code 313 = .ok (.aload_n 0, 1) := by decide +kernel
theorem d_L_law_314 : decode code 314 = .ok (.iload_n 3, 1) := by decide +kernel
theorem d_L_law_315 : decode code 315 = .ok (.iconst 3, 1) := by decide +kernel
theorem d_L_law_316 : decode code 316 = .ok (.iadd, 1) := by decide +kernel
theorem d_L_law_317 : decode code 317 = .ok (.iaload, 1) := by decide +kernel
theorem d_L_law_318 : decode code 318 = .ok (.aload_n 0, 1) := by decide +kernel
theorem d_L_law_319 : decode code 319 = .ok (.iload_n 3, 1) := by decide +kernel
theorem d_L_law_320 : decode code 320 = .ok (.iconst 4, 1) := by decide +kernel
theorem d_L_law_321 : decode code 321 = .ok (.iadd, 1) := by decide +kernel
theorem d_L_law_322 : decode code 322 = .ok (.iaload, 1) := by decide +kernel
theorem d_L_law_323 : decode code 323 = .ok (.invokevirtual 27, 3) := by decide +kernel
theorem d_L_law_326 : decode code 326 = .ok (.if_icmp .eq 757, 3) := by decide +kernel
theorem d_L_law_329 : decode code 329 = .ok (.iconst 0, 1) := by decide +kernel
theorem d_L_law_330 : decode code 330 = .ok (.ireturn, 1) := by decide +kernel
theorem d_L_law_331 : decode code 331 = .ok (.aload_n 1, 1) := by decide +kernel
theorem d_L_law_332 : decode code 332 = .ok (.aload_n 0, 1) := by decide +kernel
theorem d_L_law_333 : decode code 333 = .ok (.iload_n 3, 1) := by decide +kernel
theorem d_L_law_334 : decode code 334 = .ok (.iconst 1, 1) := by decide +kernel
theorem d_L_law_335 : decode code 335 = .ok (.iadd, 1) := by decide +kernel
theorem d_L_law_336 : decode code 336 = .ok (.iaload, 1) := by decide +kernel
theorem d_L_law_337 : decode code 337 = .ok (.invokevirtual 28, 3) := by decide +kernel
theorem d_L_law_340 : decode code 340 = .ok (.aload_n 2, 1) := by decide +kernel
theorem d_L_law_341 : decode code 341 = .ok (.aload_n 0, 1) := by decide +kernel
theorem d_L_law_342 : decode code 342 = .ok (.iload_n 3, 1) := by decide +kernel
theorem d_L_law_343 : decode code 343 = .ok (.iconst 1, 1) := by decide +kernel
theorem d_L_law_344 : decode code 344 = .ok (.iadd, 1) := by decide +kernel
theorem d_L_law_345 : decode code 345 = .ok (.iaload, 1) := by decide +kernel
theorem d_L_law_346 : decode code 346 = .ok (.invokevirtual 32, 3) := by decide +kernel
theorem d_L_law_349 : decode code 349 = .ok (.if_icmp .eq 734, 3) := by decide +kernel
theorem d_L_law_352 : decode code 352 = .ok (.iconst 0, 1) := by decide +kernel
theorem d_L_law_353 : decode code 353 = .ok (.ireturn, 1) := by decide +kernel
theorem d_L_law_354 : decode code 354 = .ok (.aload_n 1, 1) := by decide +kernel
theorem d_L_law_355 : decode code 355 = .ok (.aload_n 0, 1) := by decide +kernel
theorem d_L_law_356 : decode code 356 = .ok (.iload_n 3, 1) := by decide +kernel
theorem d_L_law_357 : decode code 357 = .ok (.iconst 1, 1) := by decide +kernel
theorem d_L_law_358 : decode code 358 = .ok (.iadd, 1) := by decide +kernel
theorem d_L_law_359 : decode code 359 = .ok (.iaload, 1) := by decide +kernel
theorem d_L_law_360 : decode code 360 = .ok (.invokevirtual 33, 3) := by decide +kernel
theorem d_L_law_363 : decode code 363 = .ok (.aload_n 2, 1) := by decide +kernel
theorem d_L_law_364 : decode code 364 = .ok (.aload_n 0, 1) := by decide +kernel
theorem d_L_law_365 : decode code 365 = .ok (.iload_n 3, 1) := by decide +kernel
theorem d_L_law_366 : decode code 366 = .ok (.iconst 1, 1) := by decide +kernel
theorem d_L_law_367 : decode code 367 = .ok (.iadd, 1) := by decide +kernel
theorem d_L_law_368 : decode code 368 = .ok (.iaload, 1) := by decide +kernel
theorem d_L_law_369 : decode code 369 = .ok (.invokevirtual 36, 3) := by decide +kernel
theorem d_L_law_372 : decode code 372 = .ok (.if_icmp .eq 711, 3) := by decide +kernel
theorem d_L_law_375 : decode code 375 = .ok (.iconst 0, 1) := by decide +kernel
theorem d_L_law_376 : decode code 376 = .ok (.ireturn, 1) := by decide +kernel
theorem d_L_law_377 : decode code 377 = .ok (.aload_n 1, 1) := by decide +kernel
theorem d_L_law_378 : decode code 378 = .ok (.aload_n 0, 1) := by decide +kernel
theorem d_L_law_379 : decode code 379 = .ok (.iload_n 3, 1) := by decide +kernel
theorem d_L_law_380 : decode code 380 = .ok (.iconst 1, 1) := by decide +kernel
theorem d_L_law_381 : decode code 381 = .ok (.iadd, 1) := by decide +kernel
theorem d_L_law_382 : decode code 382 = .ok (.iaload, 1) := by decide +kernel
theorem d_L_law_383 : decode code 383 = .ok (.aload_n 0, 1) := by decide +kernel
theorem d_L_law_384 : decode code 384 = .ok (.iload_n 3, 1) := by decide +kernel
theorem d_L_law_385 : decode code 385 = .ok (.iconst 2, 1) := by decide +kernel
theorem d_L_law_386 : decode code 386 = .ok (.iadd, 1) := by decide +kernel
theorem d_L_law_387 : decode code 387 = .ok (.iaload, 1) := by decide +kernel
theorem d_L_law_388 : decode code 388 = .ok (.invokevirtual 37, 3) := by decide +kernel
theorem d_L_law_391 : decode code 391 = .ok (.aload_n 2, 1) := by decide +kernel
theorem d_L_law_392 : decode code 392 = .ok (.aload_n 0, 1) := by decide +kernel
theorem d_L_law_393 : decode code 393 = .ok (.iload_n 3, 1) := by decide +kernel
theorem d_L_law_394 : decode code 394 = .ok (.iconst 1, 1) := by decide +kernel
theorem d_L_law_395 : decode code 395 = .ok (.iadd, 1) := by decide +kernel
theorem d_L_law_396 : decode code 396 = .ok (.iaload, 1) := by decide +kernel
theorem d_L_law_397 : decode code 397 = .ok (.aload_n 0, 1) := by decide +kernel
theorem d_L_law_398 : decode code 398 = .ok (.iload_n 3, 1) := by decide +kernel
theorem d_L_law_399 : decode code 399 = .ok (.iconst 2, 1) := by decide +kernel
theorem d_L_law_400 : decode code 400 = .ok (.iadd, 1) := by decide +kernel
theorem d_L_law_401 : decode code 401 = .ok (.iaload, 1) := by decide +kernel
theorem d_L_law_402 : decode code 402 = .ok (.invokevirtual 41, 3) := by decide +kernel
theorem d_L_law_405 : decode code 405 = .ok (.if_icmp .eq 678, 3) := by decide +kernel
theorem d_L_law_408 : decode code 408 = .ok (.iconst 0, 1) := by decide +kernel
theorem d_L_law_409 : decode code 409 = .ok (.ireturn, 1) := by decide +kernel
theorem d_L_law_410 : decode code 410 = .ok (.aload_n 1, 1) := by decide +kernel
theorem d_L_law_411 : decode code 411 = .ok (.aload_n 0, 1) := by decide +kernel
theorem d_L_law_412 : decode code 412 = .ok (.iload_n 3, 1) := by decide +kernel
theorem d_L_law_413 : decode code 413 = .ok (.iconst 1, 1) := by decide +kernel
theorem d_L_law_414 : decode code 414 = .ok (.iadd, 1) := by decide +kernel
theorem d_L_law_415 : decode code 415 = .ok (.iaload, 1) := by decide +kernel
theorem d_L_law_416 : decode code 416 = .ok (.aload_n 0, 1) := by decide +kernel
theorem d_L_law_417 : decode code 417 = .ok (.iload_n 3, 1) := by decide +kernel
theorem d_L_law_418 : decode code 418 = .ok (.iconst 2, 1) := by decide +kernel
theorem d_L_law_419 : decode code 419 = .ok (.iadd, 1) := by decide +kernel
theorem d_L_law_420 : decode code 420 = .ok (.iaload, 1) := by decide +kernel
theorem d_L_law_421 : decode code 421 = .ok (.aload_n 0, 1) := by decide +kernel
theorem d_L_law_422 : decode code 422 = .ok (.iload_n 3, 1) := by decide +kernel
theorem d_L_law_423 : decode code 423 = .ok (.iconst 3, 1) := by decide +kernel
theorem d_L_law_424 : decode code 424 = .ok (.iadd, 1) := by decide +kernel
theorem d_L_law_425 : decode code 425 = .ok (.iaload, 1) := by decide +kernel
theorem d_L_law_426 : decode code 426 = .ok (.aload_n 0, 1) := by decide +kernel
theorem d_L_law_427 : decode code 427 = .ok (.iload_n 3, 1) := by decide +kernel
theorem d_L_law_428 : decode code 428 = .ok (.iconst 4, 1) := by decide +kernel
theorem d_L_law_429 : decode code 429 = .ok (.iadd, 1) := by decide +kernel
theorem d_L_law_430 : decode code 430 = .ok (.iaload, 1) := by decide +kernel
theorem d_L_law_431 : decode code 431 = .ok (.invokevirtual 42, 3) := by decide +kernel
theorem d_L_law_434 : decode code 434 = .ok (.aload_n 2, 1) := by decide +kernel
theorem d_L_law_435 : decode code 435 = .ok (.aload_n 0, 1) := by decide +kernel
theorem d_L_law_436 : decode code 436 = .ok (.iload_n 3, 1) := by decide +kernel
theorem d_L_law_437 : decode code 437 = .ok (.iconst 1, 1) := by decide +kernel
theorem d_L_law_438 : decode code 438 = .ok (.iadd, 1) := by decide +kernel
theorem d_L_law_439 : decode code 439 = .ok (.iaload, 1) := by decide +kernel
theorem d_L_law_440 : decode code 440 = .ok (.aload_n 0, 1) := by decide +kernel
theorem d_L_law_441 : decode code 441 = .ok (.iload_n 3, 1) := by decide +kernel
theorem d_L_law_442 : decode code 442 = .ok (.iconst 2, 1) := by decide +kernel
theorem d_L_law_443 : decode code 443 = .ok (.iadd, 1) := by decide +kernel
theorem d_L_law_444 : decode code 444 = .ok (.iaload, 1) := by decide +kernel
theorem d_L_law_445 : decode code 445 = .ok (.aload_n 0, 1) := by decide +kernel
theorem d_L_law_446 : decode code 446 = .ok (.iload_n 3, 1) := by decide +kernel
theorem d_L_law_447 : decode code 447 = .ok (.iconst 3, 1) := by decide +kernel
theorem d_L_law_448 : decode code 448 = .ok (.iadd, 1) := by decide +kernel
theorem d_L_law_449 : decode code 449 = .ok (.iaload, 1) := by decide +kernel
theorem d_L_law_450 : decode code 450 = .ok (.aload_n 0, 1) := by decide +kernel
theorem d_L_law_451 : decode code 451 = .ok (.iload_n 3, 1) := by decide +kernel
theorem d_L_law_452 : decode code 452 = .ok (.iconst 4, 1) := by decide +kernel
theorem d_L_law_453 : decode code 453 = .ok (.iadd, 1) := by decide +kernel
theorem d_L_law_454 : decode code 454 = .ok (.iaload, 1) := by decide +kernel
theorem d_L_law_455 : decode code 455 = .ok (.invokevirtual 45, 3) := by decide +kernel
theorem d_L_law_458 : decode code 458 = .ok (.if_icmp .eq 625, 3) := by decide +kernel
theorem d_L_law_461 : decode code 461 = .ok (.iconst 0, 1) := by decide +kernel
theorem d_L_law_462 : decode code 462 = .ok (.ireturn, 1) := by decide +kernel
theorem d_L_law_463 : decode code 463 = .ok (.aload_n 1, 1) := by decide +kernel
theorem d_L_law_464 : decode code 464 = .ok (.aload_n 0, 1) := by decide +kernel
theorem d_L_law_465 : decode code 465 = .ok (.iload_n 3, 1) := by decide +kernel
theorem d_L_law_466 : decode code 466 = .ok (.iconst 1, 1) := by decide +kernel
theorem d_L_law_467 : decode code 467 = .ok (.iadd, 1) := by decide +kernel
theorem d_L_law_468 : decode code 468 = .ok (.iaload, 1) := by decide +kernel
theorem d_L_law_469 : decode code 469 = .ok (.aload_n 0, 1) := by decide +kernel
theorem d_L_law_470 : decode code 470 = .ok (.iload_n 3, 1) := by decide +kernel
theorem d_L_law_471 : decode code 471 = .ok (.iconst 2, 1) := by decide +kernel
theorem d_L_law_472 : decode code 472 = .ok (.iadd, 1) := by decide +kernel
theorem d_L_law_473 : decode code 473 = .ok (.iaload, 1) := by decide +kernel
theorem d_L_law_474 : decode code 474 = .ok (.aload_n 0, 1) := by decide +kernel
theorem d_L_law_475 : decode code 475 = .ok (.iload_n 3, 1) := by decide +kernel
theorem d_L_law_476 : decode code 476 = .ok (.iconst 3, 1) := by decide +kernel
theorem d_L_law_477 : decode code 477 = .ok (.iadd, 1) := by decide +kernel
theorem d_L_law_478 : decode code 478 = .ok (.iaload, 1) := by decide +kernel
theorem d_L_law_479 : decode code 479 = .ok (.invokevirtual 46, 3) := by decide +kernel
theorem d_L_law_482 : decode code 482 = .ok (.aload_n 2, 1) := by decide +kernel
theorem d_L_law_483 : decode code 483 = .ok (.aload_n 0, 1) := by decide +kernel
theorem d_L_law_484 : decode code 484 = .ok (.iload_n 3, 1) := by decide +kernel
theorem d_L_law_485 : decode code 485 = .ok (.iconst 1, 1) := by decide +kernel
theorem d_L_law_486 : decode code 486 = .ok (.iadd, 1) := by decide +kernel
theorem d_L_law_487 : decode code 487 = .ok (.iaload, 1) := by decide +kernel
theorem d_L_law_488 : decode code 488 = .ok (.aload_n 0, 1) := by decide +kernel
theorem d_L_law_489 : decode code 489 = .ok (.iload_n 3, 1) := by decide +kernel
theorem d_L_law_490 : decode code 490 = .ok (.iconst 2, 1) := by decide +kernel
theorem d_L_law_491 : decode code 491 = .ok (.iadd, 1) := by decide +kernel
theorem d_L_law_492 : decode code 492 = .ok (.iaload, 1) := by decide +kernel
theorem d_L_law_493 : decode code 493 = .ok (.aload_n 0, 1) := by decide +kernel
theorem d_L_law_494 : decode code 494 = .ok (.iload_n 3, 1) := by decide +kernel
theorem d_L_law_495 : decode code 495 = .ok (.iconst 3, 1) := by decide +kernel
theorem d_L_law_496 : decode code 496 = .ok (.iadd, 1) := by decide +kernel
theorem d_L_law_497 : decode code 497 = .ok (.iaload, 1) := by decide +kernel
theorem d_L_law_498 : decode code 498 = .ok (.invokevirtual 50, 3) := by decide +kernel
theorem d_L_law_501 : decode code 501 = .ok (.if_icmp .eq 582, 3) := by decide +kernel
theorem d_L_law_504 : decode code 504 = .ok (.iconst 0, 1) := by decide +kernel
theorem d_L_law_505 : decode code 505 = .ok (.ireturn, 1) := by decide +kernel
theorem d_L_law_506 : decode code 506 = .ok (.aload_n 1, 1) := by decide +kernel
theorem d_L_law_507 : decode code 507 = .ok (.aload_n 0, 1) := by decide +kernel
theorem d_L_law_508 : decode code 508 = .ok (.iload_n 3, 1) := by decide +kernel
theorem d_L_law_509 : decode code 509 = .ok (.iconst 1, 1) := by decide +kernel
theorem d_L_law_510 : decode code 510 = .ok (.iadd, 1) := by decide +kernel
theorem d_L_law_511 : decode code 511 = .ok (.iaload, 1) := by decide +kernel
theorem d_L_law_512 : decode code 512 = .ok (.aload_n 0, 1) := by decide +kernel
theorem d_L_law_513 : decode code 513 = .ok (.iload_n 3, 1) := by decide +kernel
theorem d_L_law_514 : decode code 514 = .ok (.iconst 2, 1) := by decide +kernel
theorem d_L_law_515 : decode code 515 = .ok (.iadd, 1) := by decide +kernel
theorem d_L_law_516 : decode code 516 = .ok (.iaload, 1) := by decide +kernel
theorem d_L_law_517 : decode code 517 = .ok (.aload_n 0, 1) := by decide +kernel
theorem d_L_law_518 : decode code 518 = .ok (.iload_n 3, 1) := by decide +kernel
theorem d_L_law_519 : decode code 519 = .ok (.iconst 3, 1) := by decide +kernel
theorem d_L_law_520 : decode code 520 = .ok (.iadd, 1) := by decide +kernel
theorem d_L_law_521 : decode code 521 = .ok (.iaload, 1) := by decide +kernel
theorem d_L_law_522 : decode code 522 = .ok (.invokevirtual 51, 3) := by decide +kernel
theorem d_L_law_525 : decode code 525 = .ok (.aload_n 2, 1) := by decide +kernel
theorem d_L_law_526 : decode code 526 = .ok (.aload_n 0, 1) := by decide +kernel
theorem d_L_law_527 : decode code 527 = .ok (.iload_n 3, 1) := by decide +kernel
theorem d_L_law_528 : decode code 528 = .ok (.iconst 1, 1) := by decide +kernel
theorem d_L_law_529 : decode code 529 = .ok (.iadd, 1) := by decide +kernel
theorem d_L_law_530 : decode code 530 = .ok (.iaload, 1) := by decide +kernel
theorem d_L_law_531 : decode code 531 = .ok (.aload_n 0, 1) := by decide +kernel
theorem d_L_law_532 : decode code 532 = .ok (.iload_n 3, 1) := by decide +kernel
theorem d_L_law_533 : decode code 533 = .ok (.iconst 2, 1) := by decide +kernel
theorem d_L_law_534 : decode code 534 = .ok (.iadd, 1) := by decide +kernel
theorem d_L_law_535 : decode code 535 = .ok (.iaload, 1) := by decide +kernel
theorem d_L_law_536 : decode code 536 = .ok (.aload_n 0, 1) := by decide +kernel
theorem d_L_law_537 : decode code 537 = .ok (.iload_n 3, 1) := by decide +kernel
theorem d_L_law_538 : decode code 538 = .ok (.iconst 3, 1) := by decide +kernel
theorem d_L_law_539 : decode code 539 = .ok (.iadd, 1) := by decide +kernel
theorem d_L_law_540 : decode code 540 = .ok (.iaload, 1) := by decide +kernel
theorem d_L_law_541 : decode code 541 = .ok (.invokevirtual 54, 3) := by decide +kernel
theorem d_L_law_544 : decode code 544 = .ok (.if_icmp .eq 539, 3) := by decide +kernel
theorem d_L_law_547 : decode code 547 = .ok (.iconst 0, 1) := by decide +kernel
theorem d_L_law_548 : decode code 548 = .ok (.ireturn, 1) := by decide +kernel
theorem d_L_law_549 : decode code 549 = .ok (.aload_n 1, 1) := by decide +kernel
theorem d_L_law_550 : decode code 550 = .ok (.aload_n 0, 1) := by decide +kernel
theorem d_L_law_551 : decode code 551 = .ok (.iload_n 3, 1) := by decide +kernel
theorem d_L_law_552 : decode code 552 = .ok (.iconst 1, 1) := by decide +kernel
theorem d_L_law_553 : decode code 553 = .ok (.iadd, 1) := by decide +kernel
theorem d_L_law_554 : decode code 554 = .ok (.iaload, 1) := by decide +kernel
theorem d_L_law_555 : decode code 555 = .ok (.aload_n 0, 1) := by decide +kernel
theorem d_L_law_556 : decode code 556 = .ok (.iload_n 3, 1) := by decide +kernel
theorem d_L_law_557 : decode code 557 = .ok (.iconst 2, 1) := by decide +kernel
theorem d_L_law_558 : decode code 558 = .ok (.iadd, 1) := by decide +kernel
theorem d_L_law_559 : decode code 559 = .ok (.iaload, 1) := by decide +kernel
theorem d_L_law_560 : decode code 560 = .ok (.aload_n 0, 1) := by decide +kernel
theorem d_L_law_561 : decode code 561 = .ok (.iload_n 3, 1) := by decide +kernel
theorem d_L_law_562 : decode code 562 = .ok (.iconst 3, 1) := by decide +kernel
theorem d_L_law_563 : decode code 563 = .ok (.iadd, 1) := by decide +kernel
theorem d_L_law_564 : decode code 564 = .ok (.iaload, 1) := by decide +kernel
theorem d_L_law_565 : decode code 565 = .ok (.invokevirtual 55, 3) := by decide +kernel
theorem d_L_law_568 : decode code 568 = .ok (.aload_n 2, 1) := by decide +kernel
theorem d_L_law_569 : decode code 569 = .ok (.aload_n 0, 1) := by decide +kernel
theorem d_L_law_570 : decode code 570 = .ok (.iload_n 3, 1) := by decide +kernel
theorem d_L_law_571 : decode code 571 = .ok (.iconst 1, 1) := by decide +kernel
theorem d_L_law_572 : decode code 572 = .ok (.iadd, 1) := by decide +kernel
theorem d_L_law_573 : decode code 573 = .ok (.iaload, 1) := by decide +kernel
theorem d_L_law_574 : decode code 574 = .ok (.aload_n 0, 1) := by decide +kernel
theorem d_L_law_575 : decode code 575 = .ok (.iload_n 3, 1) := by decide +kernel
theorem d_L_law_576 : decode code 576 = .ok (.iconst 2, 1) := by decide +kernel
theorem d_L_law_577 : decode code 577 = .ok (.iadd, 1) := by decide +kernel
theorem d_L_law_578 : decode code 578 = .ok (.iaload, 1) := by decide +kernel
theorem d_L_law_579 : decode code 579 = .ok (.aload_n 0, 1) := by decide +kernel
theorem d_L_law_580 : decode code 580 = .ok (.iload_n 3, 1) := by decide +kernel
theorem d_L_law_581 : decode code 581 = .ok (.iconst 3, 1) := by decide +kernel
theorem d_L_law_582 : decode code 582 = .ok (.iadd, 1) := by decide +kernel
theorem d_L_law_583 : decode code 583 = .ok (.iaload, 1) := by decide +kernel
theorem d_L_law_584 : decode code 584 = .ok (.invokevirtual 59, 3) := by decide +kernel
theorem d_L_law_587 : decode code 587 = .ok (.lcmp, 1) := by decide +kernel
theorem d_L_law_588 : decode code 588 = .ok (.ifCond .eq 495, 3) := by decide +kernel
theorem d_L_law_591 : decode code 591 = .ok (.iconst 0, 1) := by decide +kernel
theorem d_L_law_592 : decode code 592 = .ok (.ireturn, 1) := by decide +kernel
theorem d_L_law_593 : decode code 593 = .ok (.aload_n 1, 1) := by decide +kernel
theorem d_L_law_594 : decode code 594 = .ok (.aload_n 0, 1) := by decide +kernel
theorem d_L_law_595 : decode code 595 = .ok (.iload_n 3, 1) := by decide +kernel
theorem d_L_law_596 : decode code 596 = .ok (.iconst 1, 1) := by decide +kernel
theorem d_L_law_597 : decode code 597 = .ok (.iadd, 1) := by decide +kernel
theorem d_L_law_598 : decode code 598 = .ok (.iaload, 1) := by decide +kernel
theorem d_L_law_599 : decode code 599 = .ok (.aload_n 0, 1) := by decide +kernel
theorem d_L_law_600 : decode code 600 = .ok (.iload_n 3, 1) := by decide +kernel
theorem d_L_law_601 : decode code 601 = .ok (.iconst 2, 1) := by decide +kernel
theorem d_L_law_602 : decode code 602 = .ok (.iadd, 1) := by decide +kernel
theorem d_L_law_603 : decode code 603 = .ok (.iaload, 1) := by decide +kernel
theorem d_L_law_604 : decode code 604 = .ok (.aload_n 0, 1) := by decide +kernel
theorem d_L_law_605 : decode code 605 = .ok (.iload_n 3, 1) := by decide +kernel
theorem d_L_law_606 : decode code 606 = .ok (.iconst 3, 1) := by decide +kernel
theorem d_L_law_607 : decode code 607 = .ok (.iadd, 1) := by decide +kernel
theorem d_L_law_608 : decode code 608 = .ok (.iaload, 1) := by decide +kernel
theorem d_L_law_609 : decode code 609 = .ok (.invokevirtual 60, 3) := by decide +kernel
theorem d_L_law_612 : decode code 612 = .ok (.aload_n 2, 1) := by decide +kernel
theorem d_L_law_613 : decode code 613 = .ok (.aload_n 0, 1) := by decide +kernel
theorem d_L_law_614 : decode code 614 = .ok (.iload_n 3, 1) := by decide +kernel
theorem d_L_law_615 : decode code 615 = .ok (.iconst 1, 1) := by decide +kernel
theorem d_L_law_616 : decode code 616 = .ok (.iadd, 1) := by decide +kernel
theorem d_L_law_617 : decode code 617 = .ok (.iaload, 1) := by decide +kernel
theorem d_L_law_618 : decode code 618 = .ok (.aload_n 0, 1) := by decide +kernel
theorem d_L_law_619 : decode code 619 = .ok (.iload_n 3, 1) := by decide +kernel
theorem d_L_law_620 : decode code 620 = .ok (.iconst 2, 1) := by decide +kernel
theorem d_L_law_621 : decode code 621 = .ok (.iadd, 1) := by decide +kernel
theorem d_L_law_622 : decode code 622 = .ok (.iaload, 1) := by decide +kernel
theorem d_L_law_623 : decode code 623 = .ok (.aload_n 0, 1) := by decide +kernel
theorem d_L_law_624 : decode code 624 = .ok (.iload_n 3, 1) := by decide +kernel
theorem d_L_law_625 : decode code 625 = .ok (.iconst 3, 1) := by decide +kernel
theorem d_L_law_626 : decode code 626 = .ok (.iadd, 1) := by decide +kernel
theorem d_L_law_627 : decode code 627 = .ok (.iaload, 1) := by decide +kernel
theorem d_L_law_628 : decode code 628 = .ok (.invokevirtual 63, 3) := by decide +kernel
theorem d_L_law_631 : decode code 631 = .ok (.if_icmp .eq 452, 3) := by decide +kernel
theorem d_L_law_634 : decode code 634 = .ok (.iconst 0, 1) := by decide +kernel
theorem d_L_law_635 : decode code 635 = .ok (.ireturn, 1) := by decide +kernel
theorem d_L_law_636 : decode code 636 = .ok (.aload_n 1, 1) := by decide +kernel
theorem d_L_law_637 : decode code 637 = .ok (.aload_n 0, 1) := by decide +kernel
theorem d_L_law_638 : decode code 638 = .ok (.iload_n 3, 1) := by decide +kernel
theorem d_L_law_639 : decode code 639 = .ok (.iconst 1, 1) := by decide +kernel
theorem d_L_law_640 : decode code 640 = .ok (.iadd, 1) := by decide +kernel
theorem d_L_law_641 : decode code 641 = .ok (.iaload, 1) := by decide +kernel
theorem d_L_law_642 : decode code 642 = .ok (.invokevirtual 64, 3) := by decide +kernel
theorem d_L_law_645 : decode code 645 = .ok (.aload_n 2, 1) := by decide +kernel
theorem d_L_law_646 : decode code 646 = .ok (.aload_n 0, 1) := by decide +kernel
theorem d_L_law_647 : decode code 647 = .ok (.iload_n 3, 1) := by decide +kernel
theorem d_L_law_648 : decode code 648 = .ok (.iconst 1, 1) := by decide +kernel
theorem d_L_law_649 : decode code 649 = .ok (.iadd, 1) := by decide +kernel
theorem d_L_law_650 : decode code 650 = .ok (.iaload, 1) := by decide +kernel
theorem d_L_law_651 : decode code 651 = .ok (.invokevirtual 67, 3) := by decide +kernel
theorem d_L_law_654 : decode code 654 = .ok (.if_icmp .eq 429, 3) := by decide +kernel
theorem d_L_law_657 : decode code 657 = .ok (.iconst 0, 1) := by decide +kernel
theorem d_L_law_658 : decode code 658 = .ok (.ireturn, 1) := by decide +kernel
theorem d_L_law_659 : decode code 659 = .ok (.aload_n 1, 1) := by decide +kernel
theorem d_L_law_660 : decode code 660 = .ok (.aload_n 0, 1) := by decide +kernel
theorem d_L_law_661 : decode code 661 = .ok (.iload_n 3, 1) := by decide +kernel
theorem d_L_law_662 : decode code 662 = .ok (.iconst 1, 1) := by decide +kernel
theorem d_L_law_663 : decode code 663 = .ok (.iadd, 1) := by decide +kernel
theorem d_L_law_664 : decode code 664 = .ok (.iaload, 1) := by decide +kernel
theorem d_L_law_665 : decode code 665 = .ok (.aload_n 0, 1) := by decide +kernel
theorem d_L_law_666 : decode code 666 = .ok (.iload_n 3, 1) := by decide +kernel
theorem d_L_law_667 : decode code 667 = .ok (.iconst 2, 1) := by decide +kernel
theorem d_L_law_668 : decode code 668 = .ok (.iadd, 1) := by decide +kernel
theorem d_L_law_669 : decode code 669 = .ok (.iaload, 1) := by decide +kernel
theorem d_L_law_670 : decode code 670 = .ok (.invokevirtual 68, 3) := by decide +kernel
theorem d_L_law_673 : decode code 673 = .ok (.aload_n 2, 1) := by decide +kernel
theorem d_L_law_674 : decode code 674 = .ok (.aload_n 0, 1) := by decide +kernel
theorem d_L_law_675 : decode code 675 = .ok (.iload_n 3, 1) := by decide +kernel
theorem d_L_law_676 : decode code 676 = .ok (.iconst 1, 1) := by decide +kernel
theorem d_L_law_677 : decode code 677 = .ok (.iadd, 1) := by decide +kernel
theorem d_L_law_678 : decode code 678 = .ok (.iaload, 1) := by decide +kernel
theorem d_L_law_679 : decode code 679 = .ok (.aload_n 0, 1) := by decide +kernel
theorem d_L_law_680 : decode code 680 = .ok (.iload_n 3, 1) := by decide +kernel
theorem d_L_law_681 : decode code 681 = .ok (.iconst 2, 1) := by decide +kernel
theorem d_L_law_682 : decode code 682 = .ok (.iadd, 1) := by decide +kernel
theorem d_L_law_683 : decode code 683 = .ok (.iaload, 1) := by decide +kernel
theorem d_L_law_684 : decode code 684 = .ok (.invokevirtual 71, 3) := by decide +kernel
theorem d_L_law_687 : decode code 687 = .ok (.if_icmp .eq 396, 3) := by decide +kernel
theorem d_L_law_690 : decode code 690 = .ok (.iconst 0, 1) := by decide +kernel
theorem d_L_law_691 : decode code 691 = .ok (.ireturn, 1) := by decide +kernel
theorem d_L_law_692 : decode code 692 = .ok (.aload_n 1, 1) := by decide +kernel
theorem d_L_law_693 : decode code 693 = .ok (.aload_n 0, 1) := by decide +kernel
theorem d_L_law_694 : decode code 694 = .ok (.iload_n 3, 1) := by decide +kernel
theorem d_L_law_695 : decode code 695 = .ok (.iconst 1, 1) := by decide +kernel
theorem d_L_law_696 : decode code 696 = .ok (.iadd, 1) := by decide +kernel
theorem d_L_law_697 : decode code 697 = .ok (.iaload, 1) := by decide +kernel
theorem d_L_law_698 : decode code 698 = .ok (.aload_n 0, 1) := by decide +kernel
theorem d_L_law_699 : decode code 699 = .ok (.iload_n 3, 1) := by decide +kernel
theorem d_L_law_700 : decode code 700 = .ok (.iconst 2, 1) := by decide +kernel
theorem d_L_law_701 : decode code 701 = .ok (.iadd, 1) := by decide +kernel
theorem d_L_law_702 : decode code 702 = .ok (.iaload, 1) := by decide +kernel
theorem d_L_law_703 : decode code 703 = .ok (.invokevirtual 72, 3) := by decide +kernel
theorem d_L_law_706 : decode code 706 = .ok (.aload_n 2, 1) := by decide +kernel
theorem d_L_law_707 : decode code 707 = .ok (.aload_n 0, 1) := by decide +kernel
theorem d_L_law_708 : decode code 708 = .ok (.iload_n 3, 1) := by decide +kernel
theorem d_L_law_709 : decode code 709 = .ok (.iconst 1, 1) := by decide +kernel
theorem d_L_law_710 : decode code 710 = .ok (.iadd, 1) := by decide +kernel
theorem d_L_law_711 : decode code 711 = .ok (.iaload, 1) := by decide +kernel
theorem d_L_law_712 : decode code 712 = .ok (.aload_n 0, 1) := by decide +kernel
theorem d_L_law_713 : decode code 713 = .ok (.iload_n 3, 1) := by decide +kernel
theorem d_L_law_714 : decode code 714 = .ok (.iconst 2, 1) := by decide +kernel
theorem d_L_law_715 : decode code 715 = .ok (.iadd, 1) := by decide +kernel
theorem d_L_law_716 : decode code 716 = .ok (.iaload, 1) := by decide +kernel
theorem d_L_law_717 : decode code 717 = .ok (.invokevirtual 75, 3) := by decide +kernel
theorem d_L_law_720 : decode code 720 = .ok (.if_icmp .eq 363, 3) := by decide +kernel
theorem d_L_law_723 : decode code 723 = .ok (.iconst 0, 1) := by decide +kernel
theorem d_L_law_724 : decode code 724 = .ok (.ireturn, 1) := by decide +kernel
theorem d_L_law_725 : decode code 725 = .ok (.aload_n 1, 1) := by decide +kernel
theorem d_L_law_726 : decode code 726 = .ok (.aload_n 0, 1) := by decide +kernel
theorem d_L_law_727 : decode code 727 = .ok (.iload_n 3, 1) := by decide +kernel
theorem d_L_law_728 : decode code 728 = .ok (.iconst 1, 1) := by decide +kernel
theorem d_L_law_729 : decode code 729 = .ok (.iadd, 1) := by decide +kernel
theorem d_L_law_730 : decode code 730 = .ok (.iaload, 1) := by decide +kernel
theorem d_L_law_731 : decode code 731 = .ok (.aload_n 0, 1) := by decide +kernel
theorem d_L_law_732 : decode code 732 = .ok (.iload_n 3, 1) := by decide +kernel
end
section
theorem d_L_law_733 : decode code 733 = .ok (.iconst 2, 1) := by decide +kernel
theorem d_L_law_734 : decode code 734 = .ok (.iadd, 1) := by decide +kernel
theorem d_L_law_735 : decode code 735 = .ok (.iaload, 1) := by decide +kernel
theorem d_L_law_736 : decode code 736 = .ok (.aload_n 0, 1) := by decide +kernel
theorem d_L_law_737 : decode code 737 = .ok (.iload_n 3, 1) := by decide +kernel
theorem d_L_law_738 : decode code 738 = .ok (.iconst 3, 1) := by decide +kernel
theorem d_L_law_739 : decode code 739 = .ok (.iadd, 1) := by decide +kernel
theorem d_L_law_740 : decode code 740 = .ok (.iaload, 1) := by decide +kernel
theorem d_L_law_741 : decode code 741 = .ok (.invokevirtual 76, 3) := by decide +kernel
theorem d_L_law_744 : decode code 744 = .ok (.aload_n 2, 1) := by decide +kernel
theorem d_L_law_745 : decode code 745 = .ok (.aload_n 0, 1) := by decide +kernel
theorem d_L_law_746 : decode code 746 = .ok (.iload_n 3, 1) := by decide +kernel
theorem d_L_law_747 : decode code 747 = .ok (.iconst 1, 1) := by decide +kernel
theorem d_L_law_748 : decode code 748 = .ok (.iadd, 1) := by decide +kernel
theorem d_L_law_749 : decode code 749 = .ok (.iaload, 1) := by decide +kernel
theorem d_L_law_750 : decode code 750 = .ok (.aload_n 0, 1) := by decide +kernel
theorem d_L_law_751 : decode code 751 = .ok (.iload_n 3, 1) := by decide +kernel
theorem d_L_law_752 : decode code 752 = .ok (.iconst 2, 1) := by decide +kernel
theorem d_L_law_753 : decode code 753 = .ok (.iadd, 1) := by decide +kernel
theorem d_L_law_754 : decode code 754 = .ok (.iaload, 1) := by decide +kernel
theorem d_L_law_755 : decode code 755 = .ok (.aload_n 0, 1) := by decide +kernel
theorem d_L_law_756 : decode code 756 = .ok (.iload_n 3, 1) := by decide +kernel
theorem d_L_law_757 : decode code 757 = .ok (.iconst 3, 1) := by decide +kernel
theorem d_L_law_758 : decode code 758 = .ok (.iadd, 1) := by decide +kernel
theorem d_L_law_759 : decode code 759 = .ok (.iaload, 1) := by decide +kernel
theorem d_L_law_760 : decode code 760 = .ok (.invokevirtual 79, 3) := by decide +kernel
theorem d_L_law_763 : decode code 763 = .ok (.if_icmp .eq 320, 3) := by decide +kernel
theorem d_L_law_766 : decode code 766 = .ok (.iconst 0, 1) := by decide +kernel
theorem d_L_law_767 : decode code 767 = .ok (.ireturn, 1) := by decide +kernel
theorem d_L_law_768 : decode code 768 = .ok (.aload_n 1, 1) := by decide +kernel
theorem d_L_law_769 : decode code 769 = .ok (.aload_n 0, 1) := by decide +kernel
theorem d_L_law_770 : decode code 770 = .ok (.iload_n 3, 1) := by decide +kernel
theorem d_L_law_771 : decode code 771 = .ok (.iconst 1, 1) := by decide +kernel
theorem d_L_law_772 : decode code 772 = .ok (.iadd, 1) := by decide +kernel
theorem d_L_law_773 : decode code 773 = .ok (.iaload, 1) := by decide +kernel
theorem d_L_law_774 : decode code 774 = .ok (.aload_n 0, 1) := by decide +kernel
theorem d_L_law_775 : decode code 775 = .ok (.iload_n 3, 1) := by decide +kernel
theorem d_L_law_776 : decode code 776 = .ok (.iconst 2, 1) := by decide +kernel
theorem d_L_law_777 : decode code 777 = .ok (.iadd, 1) := by decide +kernel
theorem d_L_law_778 : decode code 778 = .ok (.iaload, 1) := by decide +kernel
theorem d_L_law_779 : decode code 779 = .ok (.aload_n 0, 1) := by decide +kernel
theorem d_L_law_780 : decode code 780 = .ok (.iload_n 3, 1) := by decide +kernel
theorem d_L_law_781 : decode code 781 = .ok (.iconst 3, 1) := by decide +kernel
theorem d_L_law_782 : decode code 782 = .ok (.iadd, 1) := by decide +kernel
theorem d_L_law_783 : decode code 783 = .ok (.iaload, 1) := by decide +kernel
theorem d_L_law_784 : decode code 784 = .ok (.invokevirtual 80, 3) := by decide +kernel
theorem d_L_law_787 : decode code 787 = .ok (.aload_n 2, 1) := by decide +kernel
theorem d_L_law_788 : decode code 788 = .ok (.aload_n 0, 1) := by decide +kernel
theorem d_L_law_789 : decode code 789 = .ok (.iload_n 3, 1) := by decide +kernel
theorem d_L_law_790 : decode code 790 = .ok (.iconst 1, 1) := by decide +kernel
theorem d_L_law_791 : decode code 791 = .ok (.iadd, 1) := by decide +kernel
theorem d_L_law_792 : decode code 792 = .ok (.iaload, 1) := by decide +kernel
theorem d_L_law_793 : decode code 793 = .ok (.aload_n 0, 1) := by decide +kernel
theorem d_L_law_794 : decode code 794 = .ok (.iload_n 3, 1) := by decide +kernel
theorem d_L_law_795 : decode code 795 = .ok (.iconst 2, 1) := by decide +kernel
theorem d_L_law_796 : decode code 796 = .ok (.iadd, 1) := by decide +kernel
theorem d_L_law_797 : decode code 797 = .ok (.iaload, 1) := by decide +kernel
theorem d_L_law_798 : decode code 798 = .ok (.aload_n 0, 1) := by decide +kernel
theorem d_L_law_799 : decode code 799 = .ok (.iload_n 3, 1) := by decide +kernel
theorem d_L_law_800 : decode code 800 = .ok (.iconst 3, 1) := by decide +kernel
theorem d_L_law_801 : decode code 801 = .ok (.iadd, 1) := by decide +kernel
theorem d_L_law_802 : decode code 802 = .ok (.iaload, 1) := by decide +kernel
theorem d_L_law_803 : decode code 803 = .ok (.invokevirtual 83, 3) := by decide +kernel
theorem d_L_law_806 : decode code 806 = .ok (.if_icmp .eq 277, 3) := by decide +kernel
theorem d_L_law_809 : decode code 809 = .ok (.iconst 0, 1) := by decide +kernel
theorem d_L_law_810 : decode code 810 = .ok (.ireturn, 1) := by decide +kernel
theorem d_L_law_811 : decode code 811 = .ok (.aload_n 1, 1) := by decide +kernel
theorem d_L_law_812 : decode code 812 = .ok (.aload_n 0, 1) := by decide +kernel
theorem d_L_law_813 : decode code 813 = .ok (.iload_n 3, 1) := by decide +kernel
theorem d_L_law_814 : decode code 814 = .ok (.iconst 1, 1) := by decide +kernel
theorem d_L_law_815 : decode code 815 = .ok (.iadd, 1) := by decide +kernel
theorem d_L_law_816 : decode code 816 = .ok (.iaload, 1) := by decide +kernel
theorem d_L_law_817 : decode code 817 = .ok (.invokevirtual 84, 3) := by decide +kernel
theorem d_L_law_820 : decode code 820 = .ok (.aload_n 2, 1) := by decide +kernel
theorem d_L_law_821 : decode code 821 = .ok (.aload_n 0, 1) := by decide +kernel
theorem d_L_law_822 : decode code 822 = .ok (.iload_n 3, 1) := by decide +kernel
theorem d_L_law_823 : decode code 823 = .ok (.iconst 1, 1) := by decide +kernel
theorem d_L_law_824 : decode code 824 = .ok (.iadd, 1) := by decide +kernel
theorem d_L_law_825 : decode code 825 = .ok (.iaload, 1) := by decide +kernel
theorem d_L_law_826 : decode code 826 = .ok (.invokevirtual 87, 3) := by decide +kernel
theorem d_L_law_829 : decode code 829 = .ok (.if_icmp .eq 254, 3) := by decide +kernel
theorem d_L_law_832 : decode code 832 = .ok (.iconst 0, 1) := by decide +kernel
theorem d_L_law_833 : decode code 833 = .ok (.ireturn, 1) := by decide +kernel
theorem d_L_law_834 : decode code 834 = .ok (.aload_n 1, 1) := by decide +kernel
theorem d_L_law_835 : decode code 835 = .ok (.aload_n 0, 1) := by decide +kernel
theorem d_L_law_836 : decode code 836 = .ok (.iload_n 3, 1) := by decide +kernel
theorem d_L_law_837 : decode code 837 = .ok (.iconst 1, 1) := by decide +kernel
theorem d_L_law_838 : decode code 838 = .ok (.iadd, 1) := by decide +kernel
theorem d_L_law_839 : decode code 839 = .ok (.iaload, 1) := by decide +kernel
theorem d_L_law_840 : decode code 840 = .ok (.aload_n 0, 1) := by decide +kernel
theorem d_L_law_841 : decode code 841 = .ok (.iload_n 3, 1) := by decide +kernel
theorem d_L_law_842 : decode code 842 = .ok (.iconst 2, 1) := by decide +kernel
theorem d_L_law_843 : decode code 843 = .ok (.iadd, 1) := by decide +kernel
theorem d_L_law_844 : decode code 844 = .ok (.iaload, 1) := by decide +kernel
theorem d_L_law_845 : decode code 845 = .ok (.aload_n 0, 1) := by decide +kernel
theorem d_L_law_846 : decode code 846 = .ok (.iload_n 3, 1) := by decide +kernel
theorem d_L_law_847 : decode code 847 = .ok (.iconst 3, 1) := by decide +kernel
theorem d_L_law_848 : decode code 848 = .ok (.iadd, 1) := by decide +kernel
theorem d_L_law_849 : decode code 849 = .ok (.iaload, 1) := by decide +kernel
theorem d_L_law_850 : decode code 850 = .ok (.aload_n 0, 1) := by decide +kernel
theorem d_L_law_851 : decode code 851 = .ok (.iload_n 3, 1) := by decide +kernel
theorem d_L_law_852 : decode code 852 = .ok (.iconst 4, 1) := by decide +kernel
theorem d_L_law_853 : decode code 853 = .ok (.iadd, 1) := by decide +kernel
theorem d_L_law_854 : decode code 854 = .ok (.iaload, 1) := by decide +kernel
theorem d_L_law_855 : decode code 855 = .ok (.invokevirtual 88, 3) := by decide +kernel
theorem d_L_law_858 : decode code 858 = .ok (.aload_n 2, 1) := by decide +kernel
theorem d_L_law_859 : decode code 859 = .ok (.aload_n 0, 1) := by decide +kernel
theorem d_L_law_860 : decode code 860 = .ok (.iload_n 3, 1) := by decide +kernel
theorem d_L_law_861 : decode code 861 = .ok (.iconst 1, 1) := by decide +kernel
theorem d_L_law_862 : decode code 862 = .ok (.iadd, 1) := by decide +kernel
theorem d_L_law_863 : decode code 863 = .ok (.iaload, 1) := by decide +kernel
theorem d_L_law_864 : decode code 864 = .ok (.aload_n 0, 1) := by decide +kernel
theorem d_L_law_865 : decode code 865 = .ok (.iload_n 3, 1) := by decide +kernel
theorem d_L_law_866 : decode code 866 = .ok (.iconst 2, 1) := by decide +kernel
theorem d_L_law_867 : decode code 867 = .ok (.iadd, 1) := by decide +kernel
theorem d_L_law_868 : decode code 868 = .ok (.iaload, 1) := by decide +kernel
theorem d_L_law_869 : decode code 869 = .ok (.aload_n 0, 1) := by decide +kernel
theorem d_L_law_870 : decode code 870 = .ok (.iload_n 3, 1) := by decide +kernel
theorem d_L_law_871 : decode code 871 = .ok (.iconst 3, 1) := by decide +kernel
theorem d_L_law_872 : decode code 872 = .ok (.iadd, 1) := by decide +kernel
theorem d_L_law_873 : decode code 873 = .ok (.iaload, 1) := by decide +kernel
theorem d_L_law_874 : decode code 874 = .ok (.aload_n 0, 1) := by decide +kernel
theorem d_L_law_875 : decode code 875 = .ok (.iload_n 3, 1) := by decide +kernel
theorem d_L_law_876 : decode code 876 = .ok (.iconst 4, 1) := by decide +kernel
theorem d_L_law_877 : decode code 877 = .ok (.iadd, 1) := by decide +kernel
theorem d_L_law_878 : decode code 878 = .ok (.iaload, 1) := by decide +kernel
theorem d_L_law_879 : decode code 879 = .ok (.invokevirtual 91, 3) := by decide +kernel
theorem d_L_law_882 : decode code 882 = .ok (.if_icmp .eq 201, 3) := by decide +kernel
theorem d_L_law_885 : decode code 885 = .ok (.iconst 0, 1) := by decide +kernel
theorem d_L_law_886 : decode code 886 = .ok (.ireturn, 1) := by decide +kernel
theorem d_L_law_887 : decode code 887 = .ok (.aload_n 1, 1) := by decide +kernel
theorem d_L_law_888 : decode code 888 = .ok (.aload_n 0, 1) := by decide +kernel
theorem d_L_law_889 : decode code 889 = .ok (.iload_n 3, 1) := by decide +kernel
theorem d_L_law_890 : decode code 890 = .ok (.iconst 1, 1) := by decide +kernel
theorem d_L_law_891 : decode code 891 = .ok (.iadd, 1) := by decide +kernel
theorem d_L_law_892 : decode code 892 = .ok (.iaload, 1) := by decide +kernel
theorem d_L_law_893 : decode code 893 = .ok (.aload_n 0, 1) := by decide +kernel
theorem d_L_law_894 : decode code 894 = .ok (.iload_n 3, 1) := by decide +kernel
theorem d_L_law_895 : decode code 895 = .ok (.iconst 2, 1) := by decide +kernel
theorem d_L_law_896 : decode code 896 = .ok (.iadd, 1) := by decide +kernel
theorem d_L_law_897 : decode code 897 = .ok (.iaload, 1) := by decide +kernel
theorem d_L_law_898 : decode code 898 = .ok (.aload_n 0, 1) := by decide +kernel
theorem d_L_law_899 : decode code 899 = .ok (.iload_n 3, 1) := by decide +kernel
theorem d_L_law_900 : decode code 900 = .ok (.iconst 3, 1) := by decide +kernel
theorem d_L_law_901 : decode code 901 = .ok (.iadd, 1) := by decide +kernel
theorem d_L_law_902 : decode code 902 = .ok (.iaload, 1) := by decide +kernel
theorem d_L_law_903 : decode code 903 = .ok (.invokevirtual 92, 3) := by decide +kernel
theorem d_L_law_906 : decode code 906 = .ok (.aload_n 2, 1) := by decide +kernel
theorem d_L_law_907 : decode code 907 = .ok (.aload_n 0, 1) := by decide +kernel
theorem d_L_law_908 : decode code 908 = .ok (.iload_n 3, 1) := by decide +kernel
theorem d_L_law_909 : decode code 909 = .ok (.iconst 1, 1) := by decide +kernel
theorem d_L_law_910 : decode code 910 = .ok (.iadd, 1) := by decide +kernel
theorem d_L_law_911 : decode code 911 = .ok (.iaload, 1) := by decide +kernel
theorem d_L_law_912 : decode code 912 = .ok (.aload_n 0, 1) := by decide +kernel
theorem d_L_law_913 : decode code 913 = .ok (.iload_n 3, 1) := by decide +kernel
theorem d_L_law_914 : decode code 914 = .ok (.iconst 2, 1) := by decide +kernel
theorem d_L_law_915 : decode code 915 = .ok (.iadd, 1) := by decide +kernel
theorem d_L_law_916 : decode code 916 = .ok (.iaload, 1) := by decide +kernel
theorem d_L_law_917 : decode code 917 = .ok (.aload_n 0, 1) := by decide +kernel
theorem d_L_law_918 : decode code 918 = .ok (.iload_n 3, 1) := by decide +kernel
theorem d_L_law_919 : decode code 919 = .ok (.iconst 3, 1) := by decide +kernel
theorem d_L_law_920 : decode code 920 = .ok (.iadd, 1) := by decide +kernel
theorem d_L_law_921 : decode code 921 = .ok (.iaload, 1) := by decide +kernel
theorem d_L_law_922 : decode code 922 = .ok (.invokevirtual 95, 3) := by decide +kernel
theorem d_L_law_925 : decode code 925 = .ok (.if_icmp .eq 158, 3) := by decide +kernel
theorem d_L_law_928 : decode code 928 = .ok (.iconst 0, 1) := by decide +kernel
theorem d_L_law_929 : decode code 929 = .ok (.ireturn, 1) := by decide +kernel
theorem d_L_law_930 : decode code 930 = .ok (.aload_n 1, 1) := by decide +kernel
theorem d_L_law_931 : decode code 931 = .ok (.aload_n 0, 1) := by decide +kernel
theorem d_L_law_932 : decode code 932 = .ok (.iload_n 3, 1) := by decide +kernel
theorem d_L_law_933 : decode code 933 = .ok (.iconst 1, 1) := by decide +kernel
theorem d_L_law_934 : decode code 934 = .ok (.iadd, 1) := by decide +kernel
theorem d_L_law_935 : decode code 935 = .ok (.iaload, 1) := by decide +kernel
theorem d_L_law_936 : decode code 936 = .ok (.aload_n 0, 1) := by decide +kernel
theorem d_L_law_937 : decode code 937 = .ok (.iload_n 3, 1) := by decide +kernel
theorem d_L_law_938 : decode code 938 = .ok (.iconst 2, 1) := by decide +kernel
theorem d_L_law_939 : decode code 939 = .ok (.iadd, 1) := by decide +kernel
theorem d_L_law_940 : decode code 940 = .ok (.iaload, 1) := by decide +kernel
theorem d_L_law_941 : decode code 941 = .ok (.aload_n 0, 1) := by decide +kernel
theorem d_L_law_942 : decode code 942 = .ok (.iload_n 3, 1) := by decide +kernel
theorem d_L_law_943 : decode code 943 = .ok (.iconst 3, 1) := by decide +kernel
theorem d_L_law_944 : decode code 944 = .ok (.iadd, 1) := by decide +kernel
theorem d_L_law_945 : decode code 945 = .ok (.iaload, 1) := by decide +kernel
theorem d_L_law_946 : decode code 946 = .ok (.aload_n 0, 1) := by decide +kernel
theorem d_L_law_947 : decode code 947 = .ok (.iload_n 3, 1) := by decide +kernel
theorem d_L_law_948 : decode code 948 = .ok (.iconst 4, 1) := by decide +kernel
theorem d_L_law_949 : decode code 949 = .ok (.iadd, 1) := by decide +kernel
theorem d_L_law_950 : decode code 950 = .ok (.iaload, 1) := by decide +kernel
theorem d_L_law_951 : decode code 951 = .ok (.aload_n 0, 1) := by decide +kernel
theorem d_L_law_952 : decode code 952 = .ok (.iload_n 3, 1) := by decide +kernel
theorem d_L_law_953 : decode code 953 = .ok (.iconst 5, 1) := by decide +kernel
theorem d_L_law_954 : decode code 954 = .ok (.iadd, 1) := by decide +kernel
theorem d_L_law_955 : decode code 955 = .ok (.iaload, 1) := by decide +kernel
theorem d_L_law_956 : decode code 956 = .ok (.invokevirtual 96, 3) := by decide +kernel
theorem d_L_law_959 : decode code 959 = .ok (.aload_n 2, 1) := by decide +kernel
theorem d_L_law_960 : decode code 960 = .ok (.aload_n 0, 1) := by decide +kernel
theorem d_L_law_961 : decode code 961 = .ok (.iload_n 3, 1) := by decide +kernel
theorem d_L_law_962 : decode code 962 = .ok (.iconst 1, 1) := by decide +kernel
theorem d_L_law_963 : decode code 963 = .ok (.iadd, 1) := by decide +kernel
theorem d_L_law_964 : decode code 964 = .ok (.iaload, 1) := by decide +kernel
theorem d_L_law_965 : decode code 965 = .ok (.aload_n 0, 1) := by decide +kernel
theorem d_L_law_966 : decode code 966 = .ok (.iload_n 3, 1) := by decide +kernel
theorem d_L_law_967 : decode code 967 = .ok (.iconst 2, 1) := by decide +kernel
theorem d_L_law_968 : decode code 968 = .ok (.iadd, 1) := by decide +kernel
theorem d_L_law_969 : decode code 969 = .ok (.iaload, 1) := by decide +kernel
theorem d_L_law_970 : decode code 970 = .ok (.aload_n 0, 1) := by decide +kernel
theorem d_L_law_971 : decode code 971 = .ok (.iload_n 3, 1) := by decide +kernel
theorem d_L_law_972 : decode code 972 = .ok (.iconst 3, 1) := by decide +kernel
theorem d_L_law_973 : decode code 973 = .ok (.iadd, 1) := by decide +kernel
theorem d_L_law_974 : decode code 974 = .ok (.iaload, 1) := by decide +kernel
theorem d_L_law_975 : decode code 975 = .ok (.aload_n 0, 1) := by decide +kernel
theorem d_L_law_976 : decode code 976 = .ok (.iload_n 3, 1) := by decide +kernel
theorem d_L_law_977 : decode code 977 = .ok (.iconst 4, 1) := by decide +kernel
theorem d_L_law_978 : decode code 978 = .ok (.iadd, 1) := by decide +kernel
theorem d_L_law_979 : decode code 979 = .ok (.iaload, 1) := by decide +kernel
theorem d_L_law_980 : decode code 980 = .ok (.aload_n 0, 1) := by decide +kernel
theorem d_L_law_981 : decode code 981 = .ok (.iload_n 3, 1) := by decide +kernel
theorem d_L_law_982 : decode code 982 = .ok (.iconst 5, 1) := by decide +kernel
theorem d_L_law_983 : decode code 983 = .ok (.iadd, 1) := by decide +kernel
theorem d_L_law_984 : decode code 984 = .ok (.iaload, 1) := by decide +kernel
theorem d_L_law_985 : decode code 985 = .ok (.invokevirtual 99, 3) := by decide +kernel
theorem d_L_law_988 : decode code 988 = .ok (.if_icmp .eq 95, 3) := by decide +kernel
theorem d_L_law_991 : decode code 991 = .ok (.iconst 0, 1) := by decide +kernel
theorem d_L_law_992 : decode code 992 = .ok (.ireturn, 1) := by decide +kernel
theorem d_L_law_993 : decode code 993 = .ok (.aload_n 1, 1) := by decide +kernel
theorem d_L_law_994 : decode code 994 = .ok (.aload_n 0, 1) := by decide +kernel
theorem d_L_law_995 : decode code 995 = .ok (.iload_n 3, 1) := by decide +kernel
theorem d_L_law_996 : decode code 996 = .ok (.iconst 1, 1) := by decide +kernel
theorem d_L_law_997 : decode code 997 = .ok (.iadd, 1) := by decide +kernel
theorem d_L_law_998 : decode code 998 = .ok (.iaload, 1) := by decide +kernel
theorem d_L_law_999 : decode code 999 = .ok (.aload_n 0, 1) := by decide +kernel
theorem d_L_law_1000 : decode code 1000 = .ok (.iload_n 3, 1) := by decide +kernel
theorem d_L_law_1001 : decode code 1001 = .ok (.iconst 2, 1) := by decide +kernel
theorem d_L_law_1002 : decode code 1002 = .ok (.iadd, 1) := by decide +kernel
theorem d_L_law_1003 : decode code 1003 = .ok (.iaload, 1) := by decide +kernel
theorem d_L_law_1004 : decode code 1004 = .ok (.aload_n 0, 1) := by decide +kernel
theorem d_L_law_1005 : decode code 1005 = .ok (.iload_n 3, 1) := by decide +kernel
theorem d_L_law_1006 : decode code 1006 = .ok (.iconst 3, 1) := by decide +kernel
theorem d_L_law_1007 : decode code 1007 = .ok (.iadd, 1) := by decide +kernel
theorem d_L_law_1008 : decode code 1008 = .ok (.iaload, 1) := by decide +kernel
theorem d_L_law_1009 : decode code 1009 = .ok (.aload_n 0, 1) := by decide +kernel
theorem d_L_law_1010 : decode code 1010 = .ok (.iload_n 3, 1) := by decide +kernel
theorem d_L_law_1011 : decode code 1011 = .ok (.iconst 4, 1) := by decide +kernel
theorem d_L_law_1012 : decode code 1012 = .ok (.iadd, 1) := by decide +kernel
theorem d_L_law_1013 : decode code 1013 = .ok (.iaload, 1) := by decide +kernel
theorem d_L_law_1014 : decode code 1014 = .ok (.invokevirtual 100, 3) := by decide +kernel
theorem d_L_law_1017 : decode code 1017 = .ok (.aload_n 2, 1) := by decide +kernel
theorem d_L_law_1018 : decode code 1018 = .ok (.aload_n 0, 1) := by decide +kernel
theorem d_L_law_1019 : decode code 1019 = .ok (.iload_n 3, 1) := by decide +kernel
theorem d_L_law_1020 : decode code 1020 = .ok (.iconst 1, 1) := by decide +kernel
theorem d_L_law_1021 : decode code 1021 = .ok (.iadd, 1) := by decide +kernel
theorem d_L_law_1022 : decode code 1022 = .ok (.iaload, 1) := by decide +kernel
theorem d_L_law_1023 : decode code 1023 = .ok (.aload_n 0, 1) := by decide +kernel
theorem d_L_law_1024 : decode code 1024 = .ok (.iload_n 3, 1) := by decide +kernel
theorem d_L_law_1025 : decode code 1025 = .ok (.iconst 2, 1) := by decide +kernel
theorem d_L_law_1026 : decode code 1026 = .ok (.iadd, 1) := by decide +kernel
theorem d_L_law_1027 : decode code 1027 = .ok (.iaload, 1) := by decide +kernel
theorem d_L_law_1028 : decode code 1028 = .ok (.aload_n 0, 1) := by decide +kernel
theorem d_L_law_1029 : decode code 1029 = .ok (.iload_n 3, 1) := by decide +kernel
theorem d_L_law_1030 : decode code 1030 = .ok (.iconst 3, 1) := by decide +kernel
theorem d_L_law_1031 : decode code 1031 = .ok (.iadd, 1) := by decide +kernel
theorem d_L_law_1032 : decode code 1032 = .ok (.iaload, 1) := by decide +kernel
theorem d_L_law_1033 : decode code 1033 = .ok (.aload_n 0, 1) := by decide +kernel
theorem d_L_law_1034 : decode code 1034 = .ok (.iload_n 3, 1) := by decide +kernel
theorem d_L_law_1035 : decode code 1035 = .ok (.iconst 4, 1) := by decide +kernel
theorem d_L_law_1036 : decode code 1036 = .ok (.iadd, 1) := by decide +kernel
theorem d_L_law_1037 : decode code 1037 = .ok (.iaload, 1) := by decide +kernel
theorem d_L_law_1038 : decode code 1038 = .ok (.invokevirtual 103, 3) := by decide +kernel
theorem d_L_law_1041 : decode code 1041 = .ok (.if_icmp .eq 42, 3) := by decide +kernel
theorem d_L_law_1044 : decode code 1044 = .ok (.iconst 0, 1) := by decide +kernel
theorem d_L_law_1045 : decode code 1045 = .ok (.ireturn, 1) := by decide +kernel
theorem d_L_law_1046 : decode code 1046 = .ok (.aload_n 1, 1) := by decide +kernel
theorem d_L_law_1047 : decode code 1047 = .ok (.aload_n 0, 1) := by decide +kernel
theorem d_L_law_1048 : decode code 1048 = .ok (.iload_n 3, 1) := by decide +kernel
theorem d_L_law_1049 : decode code 1049 = .ok (.iconst 1, 1) := by decide +kernel
theorem d_L_law_1050 : decode code 1050 = .ok (.iadd, 1) := by decide +kernel
theorem d_L_law_1051 : decode code 1051 = .ok (.iaload, 1) := by decide +kernel
theorem d_L_law_1052 : decode code 1052 = .ok (.invokevirtual 104, 3) := by decide +kernel
theorem d_L_law_1055 : decode code 1055 = .ok (.aload_n 2, 1) := by decide +kernel
theorem d_L_law_1056 : decode code 1056 = .ok (.aload_n 0, 1) := by decide +kernel
theorem d_L_law_1057 : decode code 1057 = .ok (.iload_n 3, 1) := by decide +kernel
theorem d_L_law_1058 : decode code 1058 = .ok (.iconst 1, 1) := by decide +kernel
theorem d_L_law_1059 : decode code 1059 = .ok (.iadd, 1) := by decide +kernel
theorem d_L_law_1060 : decode code 1060 = .ok (.iaload, 1) := by decide +kernel
theorem d_L_law_1061 : decode code 1061 = .ok (.invokevirtual 107, 3) := by decide +kernel
theorem d_L_law_1064 : decode code 1064 = .ok (.if_icmp .eq 19, 3) := by decide +kernel
theorem d_L_law_1067 : decode code 1067 = .ok (.iconst 0, 1) := by decide +kernel
theorem d_L_law_1068 : decode code 1068 = .ok (.ireturn, 1) := by decide +kernel
theorem d_L_law_1069 : decode code 1069 = .ok (.aload_n 1, 1) := by decide +kernel
theorem d_L_law_1070 : decode code 1070 = .ok (.invokevirtual 108, 3) := by decide +kernel
theorem d_L_law_1073 : decode code 1073 = .ok (.aload_n 2, 1) := by decide +kernel
theorem d_L_law_1074 : decode code 1074 = .ok (.invokevirtual 112, 3) := by decide +kernel
theorem d_L_law_1077 : decode code 1077 = .ok (.lcmp, 1) := by decide +kernel
theorem d_L_law_1078 : decode code 1078 = .ok (.ifCond .eq 5, 3) := by decide +kernel
theorem d_L_law_1081 : decode code 1081 = .ok (.iconst 0, 1) := by decide +kernel
theorem d_L_law_1082 : decode code 1082 = .ok (.ireturn, 1) := by decide +kernel
theorem d_L_law_1083 : decode code 1083 = .ok (.iinc 3 7, 3) := by decide +kernel
theorem d_L_law_1086 : decode code 1086 = .ok (.goto (-1068), 3) := by decide +kernel
theorem d_L_law_1089 : decode code 1089 = .ok (.iconst 1, 1) := by decide +kernel
theorem d_L_law_1090 : decode code 1090 = .ok (.ireturn, 1) := by decide +kernel
end
section
/-! THE PURE MACHINE: cells by their number (address = base + number), values with numbers for addresses; each row turns a step of the bytecode into a step of it -/
abbrev PE : Type := (Nat × Nat × ((Nat → Int32) ⊕ (Nat → Option Nat))) ⊕ (Nat × List Value)
abbrev Mem : Type := Nat → PE
abbrev RS : Type := Option Value × Nat × Mem
def aty : Nat → FieldType := fun t => match t with
  | 0 => .int
  | 1 => .boolean
  | 2 => .object (fR 3)
  | 3 => .object (fR 2)
  | 4 => .object (fR 0)
  | _ => .object (fR 1)
def tyL (ac : Nat → ClassId) : List (ClassId × FieldType) := [(ac 0, aty 0), (ac 1, aty 1), (ac 2, aty 2), (ac 3, aty 3), (ac 4, aty 4), (ac 5, aty 5)]
def ev (b : Nat) (v : Value) : Value := match v with
  | .ref k => .ref (b + k)
  | v => v
def eE (b : Nat) (ac : Nat → ClassId) (e : PE) : va_E := match e with
  | .inl (t, n, .inl f) => .inl (ac t, n, .inl f)
  | .inl (t, n, .inr f) => .inl (ac t, n, .inr (.inr (.inr (.inr (fun i => (f i).map (fun k => b + k))))))
  | .inr (ci, fs) => .inr (ci, fs.map (ev b))
def wsM (b : Nat) (ac : Nat → ClassId) (N : Nat) (M : Mem) : va_W := (List.range N).map (fun k => (b + k, eE b ac (M k)))
def um (M : Mem) (k : Nat) (e : PE) : Mem := fun j => if j = k then e else M j
def Rp (D : va_G) (ac : Nat → ClassId) (b N : Nat) (M : Mem) (H : Heap) : Prop := H.size = b + N ∧ va_P D clsL (wsM b ac N M) H
def At (N : Nat) (M : Mem) (a : Nat) (e : PE) : Prop := a < N ∧ M a = e
theorem ev_cat (b : Nat) (v : Value) : (ev b v).category = v.category := by cases v <;> rfl
theorem ev_cats (b : Nat) (l : List Value) : ((l.map (ev b)).map fun v => v.category) = (l.map fun v => v.category) := by
  induction l with
  | nil => rfl
  | cons a l ih => simp only [List.map_cons, ev_cat, ih]
theorem wsM_at {b : Nat} {ac : Nat → ClassId} {N : Nat} {M : Mem} {k : Nat} {e : PE} (h : At N M k e) : (wsM b ac N M)[k]? = some (b + k, eE b ac e) := by
  unfold wsM
  rw [List.getElem?_map, List.getElem?_range h.1, ← h.2]
  rfl
theorem wsM_set {b : Nat} {ac : Nat → ClassId} {N : Nat} {M : Mem} {k : Nat} (e : PE) (h : k < N) : (wsM b ac N M).set k (b + k, eE b ac e) = wsM b ac N (um M k e) := by
  apply List.ext_getElem?
  intro i
  unfold wsM
  by_cases hi : i = k
  · subst hi
    rw [List.getElem?_set_self (by simpa using h), List.getElem?_map, List.getElem?_range h]
    simp [um]
  · rw [List.getElem?_set_ne (Ne.symm hi), List.getElem?_map, List.getElem?_map]
    simp [um]
    by_cases hn : i < N
    · rw [List.getElem?_range hn]
      simp [hi]
    · rw [List.getElem?_eq_none (by simpa using hn)]
      rfl
theorem wsM_push {b : Nat} {ac : Nat → ClassId} {N : Nat} {M : Mem} (e : PE) : wsM b ac N M ++ [(b + N, eE b ac e)] = wsM b ac (N + 1) (um M N e) := by
  unfold wsM
  rw [List.range_succ, List.map_append]
  congr 1
  · apply List.map_congr_left
    intro k hk
    have : k ≠ N := by have := List.mem_range.mp hk; omega
    simp [um, this]
  · simp [um]
theorem wsM_mem {b : Nat} {ac : Nat → ClassId} {N : Nat} {M : Mem} {i : Nat} {q : Nat × va_E} (h : (wsM b ac N M)[i]? = some q) : q.1 = b + i := by
  unfold wsM at h
  rw [List.getElem?_map] at h
  cases hr : (List.range N)[i]? with
  | none => rw [hr] at h; cases h
  | some j =>
    rw [hr] at h
    obtain ⟨h1, h2⟩ := List.getElem?_eq_some_iff.mp hr
    simp at h2
    subst h2
    cases h
    rfl
theorem wsM_D {b : Nat} {ac : Nat → ClassId} {N : Nat} {M : Mem} : va_D (fun q => b ≤ q) (wsM b ac N M) := by
  refine ⟨fun i j x y hx hy hxy => ?_, fun k q hk => ?_⟩
  · have h1 := wsM_mem hx
    have h2 := wsM_mem hy
    omega
  · have h1 := wsM_mem hk
    show b ≤ q.1
    omega
/-- what doesn't count among the good words: links of nest mates, arrays over classes -/
def nests : List (String × Nat × MethodName) := [("SpanStore$Keeper", 27, y_C_isCongruent), ("SpanStore$Block", 107, y_C_isCongruent), ("SpanStore$Block", 118, y_C_isFact), ("SpanStore$Block", 124, y_C_mixed), ("SpanStore$Table", 84, y_C_mixed)]
def Nx (U : State) : Prop := (∀ q ∈ nests, va_Nw (.methodLinkNest q.1 q.2.1 q.2.2 "SpanStore") U) ∧ va_AO (fR 3) U ∧ va_AO (fR 2) U ∧ va_AO (fR 0) U ∧ va_AO (fR 1) U
def Kx (D : va_G) (ac : Nat → ClassId) (U : State) : Prop := va_K D clsL (tyL ac) U ∧ Nx U
theorem Nx.warm {s U : State} (hW : s.WarmedH U.vm) (h : Nx s) : Nx U := ⟨fun q hq => va_Nw.warmM hW (h.1 q hq), h.2.1.moved hW.alike, h.2.2.1.moved hW.alike, h.2.2.2.1.moved hW.alike, h.2.2.2.2.moved hW.alike⟩
theorem Nx.same {s U : State} (hv : s.vm = U.vm) (h : Nx s) : Nx U := ⟨fun q hq => va_Nw.same rfl hv (h.1 q hq), h.2.1.moved (hv ▸ Vm.Alike.refl s.vm), h.2.2.1.moved (hv ▸ Vm.Alike.refl s.vm), h.2.2.2.1.moved (hv ▸ Vm.Alike.refl s.vm), h.2.2.2.2.moved (hv ▸ Vm.Alike.refl s.vm)⟩
theorem Kx.warm {D : va_G} {ac : Nat → ClassId} {s U : State} (hW : s.WarmedH U.vm) (h : Kx D ac s) : Kx D ac U := ⟨h.1.moved hW.alike, h.2.warm hW⟩
theorem Kx.same {D : va_G} {ac : Nat → ClassId} {s U : State} (hv : s.vm = U.vm) (h : Kx D ac s) : Kx D ac U := ⟨h.1.moved (hv ▸ Vm.Alike.refl s.vm), h.2.same hv⟩
theorem va_S.thn {A : Nat → Prop} {H0 H H1 : Heap} {locs locs1 : List Loc} (h : va_S A H0 H locs) (h1 : va_S A H H1 locs1) : va_S A H0 H1 locs1 := ⟨Nat.le_trans h.1 h1.1, fun q hq hA => (h1.2.1 q (Nat.lt_of_lt_of_le hq h.1) hA).trans (h.2.1 q hq hA), h1.2.2⟩
theorem va_S.here {A : Nat → Prop} {H0 H : Heap} {locs : List Loc} (h : va_S A H0 H locs) : va_S A H H locs := ⟨Nat.le_refl _, fun _ _ _ => rfl, h.2.2⟩
theorem W_sz {p : Program} {l : Launch} {e : Env} {R : Room} {s : State} {m : MethodId} {args : Array Value} {below : List Frame} {meth : Method} {c : Code} {H : Heap} {locs : List Loc} {cells slots : Nat} {Q : State → Prop} {g : JFrame} (k : H.size ≤ s.heap.size + cells → W p l e R s m args below meth c H locs cells slots Q g) : W p l e R s m args below meth c H locs cells slots Q g := fun T hT X => k (by have := X.heapSize; rw [hT] at this; exact this) T hT X
/-- a method's contract: from the memory M of N cells, with these arguments, it returns, with this answer and this memory -/
def Pre (D : va_G) (ac : Nat → ClassId) (b N : Nat) (M : Mem) (av : List Value) : Array Value → State → Prop := va_Pc (av.map (ev b)) (fun U => Rp D ac b N M U.heap ∧ Kx D ac U)
def Pst (D : va_G) (ac : Nat → ClassId) (b : Nat) (r : RS) : Array Value → State → Outcome → State → Prop := fun _ st oc t => oc = .returned (r.1.map (ev b)) ∧ Rp D ac b r.2.1 r.2.2 t.heap ∧ va_F (fun q => b ≤ q) st t
def Ct (l : Launch) (D : va_G) (ac : Nat → ClassId) (b : Nat) (y : MethodName) (cc : ByteArray) (nL : Nat) (rt : Option FieldType) (fr lo mc ms : Nat) (av : List Value) (N : Nat) (M : Mem) (r : RS) : Prop :=
  Met l y (Cond.code y cc nL rt :: tbG) ({ frames := fr, cells := mc, slots := ms, locals := lo }) (Pre D ac b N M av) (Pst D ac b r) mc ms (fun q => b ≤ q)
theorem Pre.blind (D : va_G) (ac : Nat → ClassId) (b N : Nat) (M : Mem) (av : List Value) : FrameBlind (Pre D ac b N M av) := by
  intro a U g mk h
  obtain ⟨h1, h2, h3⟩ := h
  exact ⟨h1, h2, h3.same rfl⟩
def Fx (D : va_G) (ac : Nat → ClassId) (b : Nat) (own : String) (cc : ByteArray) (nL : Nat) (rt : Option FieldType) (i0 : Bool) (p : Program) (s : State) (m : MethodId) (args : Array Value) (meth : Method) (c : Code) : Prop :=
  p.tables.exec = Jvm.exec ∧ c.code = cc ∧ c.maxLocals = nL ∧ meth.sig.returnType = rt ∧ s.vm.findClass own = some m.cls ∧ (∀ w ∈ tbG, w.before args s = true) ∧ meth.locks = false ∧ Kx D ac s ∧ b ≤ s.heap.size ∧ (i0 = true → meth.name = "<init>")
def el (b : Nat) (q : Nat × Value) : Nat × Value := (q.1, ev b q.2)
/-- the method stands at pc with these locals, this stack, this memory, and comes to its end with r -/
def V (l : Launch) (D : va_G) (ac : Nat → ClassId) (b : Nat) (own : String) (cc : ByteArray) (nL : Nat) (rt : Option FieldType) (i0 : Bool) (fr lo mc ms : Nat) (r : RS) (cs sl pc : Nat) (lv : List (Nat × Value)) (st : List Value) (N : Nat) (M : Mem) : Prop :=
  ∀ (p : Program) (e : Env) (s : State) (m : MethodId) (args : Array Value) (below : List Frame) (meth : Method) (c : Code) (H : Heap) (locs : List Loc) (ls : Array Slot) (Qc : Array Value → State → Outcome → State → Prop),
    Fx D ac b own cc nL rt i0 p s m args meth c → (Rp D ac b N M H ∧ b + N = s.heap.size + cs) → va_S (fun q => b ≤ q) s.heap H locs → lv_has ls nL (lv.map (el b)) →
    (∀ t : State, Rp D ac b r.2.1 r.2.2 t.heap → s.WarmedH t.vm → va_F (fun q => b ≤ q) s t → Qc args s (.returned (r.1.map (ev b))) t) →
    W p l e ({ frames := fr, cells := mc, slots := ms, locals := lo }) s m args below meth c H locs cs sl (MQ below Qc args s mc ms (fun q => b ≤ q)) (F0 m pc ls (st.map (ev b)))

section PM
variable {l : Launch} {D : va_G} {ac : Nat → ClassId} {b : Nat} {own : String} {cc : ByteArray} {nL : Nat} {rt : Option FieldType} {i0 : Bool} {fr lo mc ms : Nat} {r : RS} {cs sl pc q : Nat} {lv : List (Nat × Value)} {st : List Value} {N : Nat} {M : Mem}
theorem s_iconst {n : Int} {v : Int32} (hd : decode cc pc = .ok (.iconst n, 1)) (hq : pc + 1 = q) (hv : Int32.ofInt n = v) (k : V l D ac b own cc nL rt i0 fr lo mc ms r cs sl q lv (.int v :: st) N M) : V l D ac b own cc nL rt i0 fr lo mc ms r cs sl pc lv (st) N M := by
  subst hq
  intro p e s m args below meth c H locs ls Qc F hR hS hl hQ
  exact lv_iconst F.1 F.2.1 hd hv (k p e s m args below meth c H locs ls Qc F hR hS hl hQ)
theorem s_bipush {n : Int} {v : Int32} (hd : decode cc pc = .ok (.bipush n, 2)) (hq : pc + 2 = q) (hv : (Int8.ofInt n).toInt32 = v) (k : V l D ac b own cc nL rt i0 fr lo mc ms r cs sl q lv (.int v :: st) N M) : V l D ac b own cc nL rt i0 fr lo mc ms r cs sl pc lv (st) N M := by
  subst hq
  intro p e s m args below meth c H locs ls Qc F hR hS hl hQ
  exact lv_bipush F.1 F.2.1 hd hv (k p e s m args below meth c H locs ls Qc F hR hS hl hQ)
theorem s_sipush {n : Int} {v : Int32} (hd : decode cc pc = .ok (.sipush n, 3)) (hq : pc + 3 = q) (hv : (Int16.ofInt n).toInt32 = v) (k : V l D ac b own cc nL rt i0 fr lo mc ms r cs sl q lv (.int v :: st) N M) : V l D ac b own cc nL rt i0 fr lo mc ms r cs sl pc lv (st) N M := by
  subst hq
  intro p e s m args below meth c H locs ls Qc F hR hS hl hQ
  exact lv_sipush F.1 F.2.1 hd hv (k p e s m args below meth c H locs ls Qc F hR hS hl hQ)
theorem s_lconst {n : Fin 2} {v : Int64} (hd : decode cc pc = .ok (.lconst n, 1)) (hq : pc + 1 = q) (hv : Int64.ofNat n.val = v) (k : V l D ac b own cc nL rt i0 fr lo mc ms r cs sl q lv (.long v :: st) N M) : V l D ac b own cc nL rt i0 fr lo mc ms r cs sl pc lv (st) N M := by
  subst hq
  intro p e s m args below meth c H locs ls Qc F hR hS hl hQ
  exact lv_lconst F.1 F.2.1 hd hv (k p e s m args below meth c H locs ls Qc F hR hS hl hQ)
theorem s_aconst  (hd : decode cc pc = .ok (.aconst_null, 1)) (hq : pc + 1 = q)  (k : V l D ac b own cc nL rt i0 fr lo mc ms r cs sl q lv (.null :: st) N M) : V l D ac b own cc nL rt i0 fr lo mc ms r cs sl pc lv (st) N M := by
  subst hq
  intro p e s m args below meth c H locs ls Qc F hR hS hl hQ
  exact lv_null F.1 F.2.1 hd (k p e s m args below meth c H locs ls Qc F hR hS hl hQ)
theorem s_ldc {i : Nat} {v : Int32} (hd : decode cc pc = .ok (.ldc i, 2)) (hq : pc + 2 = q) (hw : Cond.constant own i v ∈ tbG) (k : V l D ac b own cc nL rt i0 fr lo mc ms r cs sl q lv (.int v :: st) N M) : V l D ac b own cc nL rt i0 fr lo mc ms r cs sl pc lv (st) N M := by
  subst hq
  intro p e s m args below meth c H locs ls Qc F hR hS hl hQ
  exact lv_ldc F.1 F.2.1 F.2.2.2.2.1 (F.2.2.2.2.2.1 _ hw) hd (k p e s m args below meth c H locs ls Qc F hR hS hl hQ)
theorem s_ldcw {i : Nat} {v : Int32} (hd : decode cc pc = .ok (.ldc_w i, 3)) (hq : pc + 3 = q) (hw : Cond.constant own i v ∈ tbG) (k : V l D ac b own cc nL rt i0 fr lo mc ms r cs sl q lv (.int v :: st) N M) : V l D ac b own cc nL rt i0 fr lo mc ms r cs sl pc lv (st) N M := by
  subst hq
  intro p e s m args below meth c H locs ls Qc F hR hS hl hQ
  exact lv_ldcw F.1 F.2.1 F.2.2.2.2.1 (F.2.2.2.2.2.1 _ hw) hd (k p e s m args below meth c H locs ls Qc F hR hS hl hQ)
theorem s_ldc2 {i : Nat} {v : Int64} (hd : decode cc pc = .ok (.ldc2_w i, 3)) (hq : pc + 3 = q) (hw : Cond.constantLong own i v ∈ tbG) (k : V l D ac b own cc nL rt i0 fr lo mc ms r cs sl q lv (.long v :: st) N M) : V l D ac b own cc nL rt i0 fr lo mc ms r cs sl pc lv (st) N M := by
  subst hq
  intro p e s m args below meth c H locs ls Qc F hR hS hl hQ
  exact lv_ldc2 F.1 F.2.1 F.2.2.2.2.1 (F.2.2.2.2.2.1 _ hw) hd (k p e s m args below meth c H locs ls Qc F hR hS hl hQ)
theorem s_iadd {x y : Int32} (hd : decode cc pc = .ok (.iadd, 1)) (hq : pc + 1 = q)  (k : V l D ac b own cc nL rt i0 fr lo mc ms r cs sl q lv (.int (x + y) :: st) N M) : V l D ac b own cc nL rt i0 fr lo mc ms r cs sl pc lv (.int y :: .int x :: st) N M := by
  subst hq
  intro p e s m args below meth c H locs ls Qc F hR hS hl hQ
  exact lv_iadd F.1 F.2.1 hd (k p e s m args below meth c H locs ls Qc F hR hS hl hQ)
theorem s_isub {x y : Int32} (hd : decode cc pc = .ok (.isub, 1)) (hq : pc + 1 = q)  (k : V l D ac b own cc nL rt i0 fr lo mc ms r cs sl q lv (.int (x - y) :: st) N M) : V l D ac b own cc nL rt i0 fr lo mc ms r cs sl pc lv (.int y :: .int x :: st) N M := by
  subst hq
  intro p e s m args below meth c H locs ls Qc F hR hS hl hQ
  exact lv_isub F.1 F.2.1 hd (k p e s m args below meth c H locs ls Qc F hR hS hl hQ)
theorem s_imul {x y : Int32} (hd : decode cc pc = .ok (.imul, 1)) (hq : pc + 1 = q)  (k : V l D ac b own cc nL rt i0 fr lo mc ms r cs sl q lv (.int (x * y) :: st) N M) : V l D ac b own cc nL rt i0 fr lo mc ms r cs sl pc lv (.int y :: .int x :: st) N M := by
  subst hq
  intro p e s m args below meth c H locs ls Qc F hR hS hl hQ
  exact lv_imul F.1 F.2.1 hd (k p e s m args below meth c H locs ls Qc F hR hS hl hQ)
theorem s_iand {x y : Int32} (hd : decode cc pc = .ok (.iand, 1)) (hq : pc + 1 = q)  (k : V l D ac b own cc nL rt i0 fr lo mc ms r cs sl q lv (.int (x &&& y) :: st) N M) : V l D ac b own cc nL rt i0 fr lo mc ms r cs sl pc lv (.int y :: .int x :: st) N M := by
  subst hq
  intro p e s m args below meth c H locs ls Qc F hR hS hl hQ
  exact lv_iand F.1 F.2.1 hd (k p e s m args below meth c H locs ls Qc F hR hS hl hQ)
theorem s_ior {x y : Int32} (hd : decode cc pc = .ok (.ior, 1)) (hq : pc + 1 = q)  (k : V l D ac b own cc nL rt i0 fr lo mc ms r cs sl q lv (.int (x ||| y) :: st) N M) : V l D ac b own cc nL rt i0 fr lo mc ms r cs sl pc lv (.int y :: .int x :: st) N M := by
  subst hq
  intro p e s m args below meth c H locs ls Qc F hR hS hl hQ
  exact lv_ior F.1 F.2.1 hd (k p e s m args below meth c H locs ls Qc F hR hS hl hQ)
theorem s_ladd {x y : Int64} (hd : decode cc pc = .ok (.ladd, 1)) (hq : pc + 1 = q)  (k : V l D ac b own cc nL rt i0 fr lo mc ms r cs sl q lv (.long (x + y) :: st) N M) : V l D ac b own cc nL rt i0 fr lo mc ms r cs sl pc lv (.long y :: .long x :: st) N M := by
  subst hq
  intro p e s m args below meth c H locs ls Qc F hR hS hl hQ
  exact lv_ladd F.1 F.2.1 hd (k p e s m args below meth c H locs ls Qc F hR hS hl hQ)
theorem s_lsub {x y : Int64} (hd : decode cc pc = .ok (.lsub, 1)) (hq : pc + 1 = q)  (k : V l D ac b own cc nL rt i0 fr lo mc ms r cs sl q lv (.long (x - y) :: st) N M) : V l D ac b own cc nL rt i0 fr lo mc ms r cs sl pc lv (.long y :: .long x :: st) N M := by
  subst hq
  intro p e s m args below meth c H locs ls Qc F hR hS hl hQ
  exact lv_lsub F.1 F.2.1 hd (k p e s m args below meth c H locs ls Qc F hR hS hl hQ)
theorem s_lmul {x y : Int64} (hd : decode cc pc = .ok (.lmul, 1)) (hq : pc + 1 = q)  (k : V l D ac b own cc nL rt i0 fr lo mc ms r cs sl q lv (.long (x * y) :: st) N M) : V l D ac b own cc nL rt i0 fr lo mc ms r cs sl pc lv (.long y :: .long x :: st) N M := by
  subst hq
  intro p e s m args below meth c H locs ls Qc F hR hS hl hQ
  exact lv_lmul F.1 F.2.1 hd (k p e s m args below meth c H locs ls Qc F hR hS hl hQ)
theorem s_idiv {x y : Int32} (hd : decode cc pc = .ok (.idiv, 1)) (hq : pc + 1 = q) (hne : ¬ y = 0) (k : V l D ac b own cc nL rt i0 fr lo mc ms r cs sl q lv (.int (x / y) :: st) N M) : V l D ac b own cc nL rt i0 fr lo mc ms r cs sl pc lv (.int y :: .int x :: st) N M := by
  subst hq
  intro p e s m args below meth c H locs ls Qc F hR hS hl hQ
  exact lv_idiv F.1 F.2.1 hd hne (k p e s m args below meth c H locs ls Qc F hR hS hl hQ)
theorem s_irem {x y : Int32} (hd : decode cc pc = .ok (.irem, 1)) (hq : pc + 1 = q) (hne : ¬ y = 0) (k : V l D ac b own cc nL rt i0 fr lo mc ms r cs sl q lv (.int (x - x / y * y) :: st) N M) : V l D ac b own cc nL rt i0 fr lo mc ms r cs sl pc lv (.int y :: .int x :: st) N M := by
  subst hq
  intro p e s m args below meth c H locs ls Qc F hR hS hl hQ
  exact lv_irem F.1 F.2.1 hd hne (k p e s m args below meth c H locs ls Qc F hR hS hl hQ)
theorem s_ineg {x : Int32} (hd : decode cc pc = .ok (.ineg, 1)) (hq : pc + 1 = q)  (k : V l D ac b own cc nL rt i0 fr lo mc ms r cs sl q lv (.int (-x) :: st) N M) : V l D ac b own cc nL rt i0 fr lo mc ms r cs sl pc lv (.int x :: st) N M := by
  subst hq
  intro p e s m args below meth c H locs ls Qc F hR hS hl hQ
  exact lv_ineg F.1 F.2.1 hd (k p e s m args below meth c H locs ls Qc F hR hS hl hQ)
theorem s_i2l {x : Int32} (hd : decode cc pc = .ok (.i2l, 1)) (hq : pc + 1 = q)  (k : V l D ac b own cc nL rt i0 fr lo mc ms r cs sl q lv (.long x.toInt64 :: st) N M) : V l D ac b own cc nL rt i0 fr lo mc ms r cs sl pc lv (.int x :: st) N M := by
  subst hq
  intro p e s m args below meth c H locs ls Qc F hR hS hl hQ
  exact lv_i2l F.1 F.2.1 hd rfl (k p e s m args below meth c H locs ls Qc F hR hS hl hQ)
theorem s_i2b {x : Int32} (hd : decode cc pc = .ok (.i2b, 1)) (hq : pc + 1 = q)  (k : V l D ac b own cc nL rt i0 fr lo mc ms r cs sl q lv (.int x.toInt8.toInt32 :: st) N M) : V l D ac b own cc nL rt i0 fr lo mc ms r cs sl pc lv (.int x :: st) N M := by
  subst hq
  intro p e s m args below meth c H locs ls Qc F hR hS hl hQ
  exact lv_i2b F.1 F.2.1 hd rfl (k p e s m args below meth c H locs ls Qc F hR hS hl hQ)
theorem s_i2s {x : Int32} (hd : decode cc pc = .ok (.i2s, 1)) (hq : pc + 1 = q)  (k : V l D ac b own cc nL rt i0 fr lo mc ms r cs sl q lv (.int x.toInt16.toInt32 :: st) N M) : V l D ac b own cc nL rt i0 fr lo mc ms r cs sl pc lv (.int x :: st) N M := by
  subst hq
  intro p e s m args below meth c H locs ls Qc F hR hS hl hQ
  exact lv_i2s F.1 F.2.1 hd rfl (k p e s m args below meth c H locs ls Qc F hR hS hl hQ)
theorem s_lcmp {x y : Int64} (hd : decode cc pc = .ok (.lcmp, 1)) (hq : pc + 1 = q)  (k : V l D ac b own cc nL rt i0 fr lo mc ms r cs sl q lv (.int (lg_cmp x y) :: st) N M) : V l D ac b own cc nL rt i0 fr lo mc ms r cs sl pc lv (.long y :: .long x :: st) N M := by
  subst hq
  intro p e s m args below meth c H locs ls Qc F hR hS hl hQ
  exact W.lcmp F.1 F.2.1 hd (k p e s m args below meth c H locs ls Qc F hR hS hl hQ)
theorem s_dup {v : Value} (hd : decode cc pc = .ok (.dup, 1)) (hq : pc + 1 = q) (hc : v.category = 1) (k : V l D ac b own cc nL rt i0 fr lo mc ms r cs sl q lv (v :: v :: st) N M) : V l D ac b own cc nL rt i0 fr lo mc ms r cs sl pc lv (v :: st) N M := by
  subst hq
  intro p e s m args below meth c H locs ls Qc F hR hS hl hQ
  exact lv_dup F.1 F.2.1 hd ((ev_cat b v).trans hc) (k p e s m args below meth c H locs ls Qc F hR hS hl hQ)
theorem s_pop {v : Value} (hd : decode cc pc = .ok (.pop, 1)) (hq : pc + 1 = q) (hc : v.category = 1) (k : V l D ac b own cc nL rt i0 fr lo mc ms r cs sl q lv (st) N M) : V l D ac b own cc nL rt i0 fr lo mc ms r cs sl pc lv (v :: st) N M := by
  subst hq
  intro p e s m args below meth c H locs ls Qc F hR hS hl hQ
  exact lv_pop F.1 F.2.1 hd ((ev_cat b v).trans hc) (k p e s m args below meth c H locs ls Qc F hR hS hl hQ)
theorem s_dup2 {v w : Value} (hd : decode cc pc = .ok (.dup2, 1)) (hq : pc + 1 = q) (hc : v.category = 1) (hc2 : w.category = 1) (k : V l D ac b own cc nL rt i0 fr lo mc ms r cs sl q lv (v :: w :: v :: w :: st) N M) : V l D ac b own cc nL rt i0 fr lo mc ms r cs sl pc lv (v :: w :: st) N M := by
  subst hq
  intro p e s m args below meth c H locs ls Qc F hR hS hl hQ
  exact lv_dup2_11 F.1 F.2.1 hd ((ev_cat b v).trans hc) ((ev_cat b w).trans hc2) (k p e s m args below meth c H locs ls Qc F hR hS hl hQ)
theorem lg_at {ls : Array Slot} {i : Nat} {v : Value} (h : lv_has ls nL (lv.map (el b))) (hg : lv.lookup i = some v) : ls[i]? = some (.val (ev b v)) := by
  have hm : (i, v) ∈ lv := by
    clear h
    induction lv with
    | nil => simp at hg
    | cons a t ih =>
      rw [List.lookup_cons] at hg
      by_cases he : (i == a.1) = true
      · rw [he] at hg
        obtain rfl := Option.some.inj hg
        have : i = a.1 := by simpa using he
        rw [this]
        exact List.mem_cons_self
      · rw [Bool.not_eq_true] at he
        rw [he] at hg
        exact List.mem_cons_of_mem _ (ih hg)
  exact h.2.2 (i, ev b v) (List.mem_map.mpr ⟨(i, v), hm, rfl⟩)
def stl (i : Nat) (v : Value) (lv : List (Nat × Value)) : List (Nat × Value) := (i, v) :: lv.filter (fun q => !(q.1 == i) && !(q.1 + 1 == i && q.2.category == 2))
def stl2 (i : Nat) (v : Value) (lv : List (Nat × Value)) : List (Nat × Value) := (i, v) :: lv.filter (fun q => !(q.1 == i) && (!(q.1 == i + 1) && !(q.1 + 1 == i && q.2.category == 2)))
theorem stl_map (i : Nat) (v : Value) (lv : List (Nat × Value)) : (i, ev b v) :: (lv.map (el b)).filter (fun q => !(q.1 == i) && !(q.1 + 1 == i && q.2.category == 2)) = (stl i v lv).map (el b) := by
  unfold stl
  rw [List.map_cons, List.filter_map]
  congr 2
  apply List.filter_congr
  intro x _
  simp [el, ev_cat]
theorem stl2_map (i : Nat) (v : Value) (lv : List (Nat × Value)) : (i, ev b v) :: (lv.map (el b)).filter (fun q => !(q.1 == i) && (!(q.1 == i + 1) && !(q.1 + 1 == i && q.2.category == 2))) = (stl2 i v lv).map (el b) := by
  unfold stl2
  rw [List.map_cons, List.filter_map]
  congr 2
  apply List.filter_congr
  intro x _
  simp [el, ev_cat]
def subL : List (Nat × Value) → List (Nat × Value) → Prop
  | [], _ => True
  | p :: t, lv => lv.lookup p.1 = some p.2 ∧ subL t lv
theorem s_lv {lv' : List (Nat × Value)} (h : subL lv' lv) (k : V l D ac b own cc nL rt i0 fr lo mc ms r cs sl pc lv' st N M) : V l D ac b own cc nL rt i0 fr lo mc ms r cs sl pc lv st N M := by
  intro p e s m args below meth c H locs ls Qc F hR hS hl hQ
  refine k p e s m args below meth c H locs ls Qc F hR hS ⟨hl.1, hl.2.1, ?_⟩ hQ
  intro x hx
  obtain ⟨y, hy, rfl⟩ := List.mem_map.mp hx
  clear k hx
  induction lv' with
  | nil => simp at hy
  | cons a t ih =>
    rcases List.mem_cons.mp hy with rfl | h2
    · exact lg_at hl h.1
    · exact ih h.2 h2
theorem s_iload_n {k4 : Fin 4} {x : Int32} (hd : decode cc pc = .ok (.iload_n k4, 1)) (hq : pc + 1 = q) (hg : lv.lookup k4.val = some (Value.int x)) (k : V l D ac b own cc nL rt i0 fr lo mc ms r cs sl q lv (Value.int x :: st) N M) : V l D ac b own cc nL rt i0 fr lo mc ms r cs sl pc lv st N M := by
  subst hq
  intro p e s m args below meth c H locs ls Qc F hR hS hl hQ
  exact lv_iload_n F.1 F.2.1 hd rfl (lg_at hl hg) (k p e s m args below meth c H locs ls Qc F hR hS hl hQ)
theorem s_iload {i : Nat} {x : Int32} (hd : decode cc pc = .ok (.iload i, 2)) (hq : pc + 2 = q) (hg : lv.lookup i = some (Value.int x)) (k : V l D ac b own cc nL rt i0 fr lo mc ms r cs sl q lv (Value.int x :: st) N M) : V l D ac b own cc nL rt i0 fr lo mc ms r cs sl pc lv st N M := by
  subst hq
  intro p e s m args below meth c H locs ls Qc F hR hS hl hQ
  exact lv_iload F.1 F.2.1 hd (lg_at hl hg) (k p e s m args below meth c H locs ls Qc F hR hS hl hQ)
theorem s_lload_n {k4 : Fin 4} {x : Int64} (hd : decode cc pc = .ok (.lload_n k4, 1)) (hq : pc + 1 = q) (hg : lv.lookup k4.val = some (Value.long x)) (k : V l D ac b own cc nL rt i0 fr lo mc ms r cs sl q lv (Value.long x :: st) N M) : V l D ac b own cc nL rt i0 fr lo mc ms r cs sl pc lv st N M := by
  subst hq
  intro p e s m args below meth c H locs ls Qc F hR hS hl hQ
  exact lv_lload_n F.1 F.2.1 hd rfl (lg_at hl hg) (k p e s m args below meth c H locs ls Qc F hR hS hl hQ)
theorem s_lload {i : Nat} {x : Int64} (hd : decode cc pc = .ok (.lload i, 2)) (hq : pc + 2 = q) (hg : lv.lookup i = some (Value.long x)) (k : V l D ac b own cc nL rt i0 fr lo mc ms r cs sl q lv (Value.long x :: st) N M) : V l D ac b own cc nL rt i0 fr lo mc ms r cs sl pc lv st N M := by
  subst hq
  intro p e s m args below meth c H locs ls Qc F hR hS hl hQ
  exact lv_lload F.1 F.2.1 hd (lg_at hl hg) (k p e s m args below meth c H locs ls Qc F hR hS hl hQ)
theorem s_aload_n {k4 : Fin 4} {v : Value} (hd : decode cc pc = .ok (.aload_n k4, 1)) (hq : pc + 1 = q) (hg : lv.lookup k4.val = some v) (hv : v = .null ∨ ∃ a, v = .ref a) (k : V l D ac b own cc nL rt i0 fr lo mc ms r cs sl q lv (v :: st) N M) : V l D ac b own cc nL rt i0 fr lo mc ms r cs sl pc lv st N M := by
  subst hq
  intro p e s m args below meth c H locs ls Qc F hR hS hl hQ
  rcases hv with rfl | ⟨a, rfl⟩
  · exact lv_aload_nN F.1 F.2.1 hd rfl (lg_at hl hg) (k p e s m args below meth c H locs ls Qc F hR hS hl hQ)
  · exact lv_aload_n F.1 F.2.1 hd rfl (lg_at hl hg) (k p e s m args below meth c H locs ls Qc F hR hS hl hQ)
theorem s_istore_n {k4 : Fin 4} {x : Int32} (hd : decode cc pc = .ok (.istore_n k4, 1)) (hq : pc + 1 = q) (hn : k4.val < nL) (k : V l D ac b own cc nL rt i0 fr lo mc ms r cs sl q (stl k4.val (Value.int x) lv) st N M) : V l D ac b own cc nL rt i0 fr lo mc ms r cs sl pc lv (Value.int x :: st) N M := by
  subst hq
  intro p e s m args below meth c H locs ls Qc F hR hS hl hQ
  exact lv_istore_n F.1 F.2.1 hd rfl hl hn (stl_map k4.val (Value.int x) lv) (fun ls hl => k p e s m args below meth c H locs ls Qc F hR hS hl hQ)
theorem s_lstore_n {k4 : Fin 4} {x : Int64} (hd : decode cc pc = .ok (.lstore_n k4, 1)) (hq : pc + 1 = q) (hn : k4.val + 1 < nL) (k : V l D ac b own cc nL rt i0 fr lo mc ms r cs sl q (stl2 k4.val (Value.long x) lv) st N M) : V l D ac b own cc nL rt i0 fr lo mc ms r cs sl pc lv (Value.long x :: st) N M := by
  subst hq
  intro p e s m args below meth c H locs ls Qc F hR hS hl hQ
  exact lv_lstore_n F.1 F.2.1 hd rfl hl hn (stl2_map k4.val (Value.long x) lv) (fun ls hl => k p e s m args below meth c H locs ls Qc F hR hS hl hQ)
theorem s_astore_n {k4 : Fin 4} {v : Value} (hd : decode cc pc = .ok (.astore_n k4, 1)) (hq : pc + 1 = q) (hn : k4.val < nL) (hv : v = .null ∨ ∃ a, v = .ref a) (k : V l D ac b own cc nL rt i0 fr lo mc ms r cs sl q (stl k4.val v lv) st N M) : V l D ac b own cc nL rt i0 fr lo mc ms r cs sl pc lv (v :: st) N M := by
  subst hq
  intro p e s m args below meth c H locs ls Qc F hR hS hl hQ
  rcases hv with rfl | ⟨a, rfl⟩
  · exact lv_astore_nN F.1 F.2.1 hd rfl hl hn (stl_map k4.val .null lv) (fun ls hl => k p e s m args below meth c H locs ls Qc F hR hS hl hQ)
  · exact lv_astore_n F.1 F.2.1 hd rfl hl hn (stl_map k4.val (.ref a) lv) (fun ls hl => k p e s m args below meth c H locs ls Qc F hR hS hl hQ)
theorem s_aload {i : Nat} {v : Value} (hd : decode cc pc = .ok (.aload i, 2)) (hq : pc + 2 = q) (hg : lv.lookup i = some v) (hv : v = .null ∨ ∃ a, v = .ref a) (k : V l D ac b own cc nL rt i0 fr lo mc ms r cs sl q lv (v :: st) N M) : V l D ac b own cc nL rt i0 fr lo mc ms r cs sl pc lv st N M := by
  subst hq
  intro p e s m args below meth c H locs ls Qc F hR hS hl hQ
  rcases hv with rfl | ⟨a, rfl⟩
  · exact lv_aloadN F.1 F.2.1 hd (lg_at hl hg) (k p e s m args below meth c H locs ls Qc F hR hS hl hQ)
  · exact lv_aload F.1 F.2.1 hd (lg_at hl hg) (k p e s m args below meth c H locs ls Qc F hR hS hl hQ)
theorem s_istore {i : Nat} {x : Int32} (hd : decode cc pc = .ok (.istore i, 2)) (hq : pc + 2 = q) (hn : i < nL) (k : V l D ac b own cc nL rt i0 fr lo mc ms r cs sl q (stl i (Value.int x) lv) st N M) : V l D ac b own cc nL rt i0 fr lo mc ms r cs sl pc lv (Value.int x :: st) N M := by
  subst hq
  intro p e s m args below meth c H locs ls Qc F hR hS hl hQ
  exact lv_istore F.1 F.2.1 hd hl hn (stl_map i (Value.int x) lv) (fun ls hl => k p e s m args below meth c H locs ls Qc F hR hS hl hQ)
theorem s_lstore {i : Nat} {x : Int64} (hd : decode cc pc = .ok (.lstore i, 2)) (hq : pc + 2 = q) (hn : i + 1 < nL) (k : V l D ac b own cc nL rt i0 fr lo mc ms r cs sl q (stl2 i (Value.long x) lv) st N M) : V l D ac b own cc nL rt i0 fr lo mc ms r cs sl pc lv (Value.long x :: st) N M := by
  subst hq
  intro p e s m args below meth c H locs ls Qc F hR hS hl hQ
  exact lv_lstore F.1 F.2.1 hd hl hn (stl2_map i (Value.long x) lv) (fun ls hl => k p e s m args below meth c H locs ls Qc F hR hS hl hQ)
theorem s_astore {i : Nat} {v : Value} (hd : decode cc pc = .ok (.astore i, 2)) (hq : pc + 2 = q) (hn : i < nL) (hv : v = .null ∨ ∃ a, v = .ref a) (k : V l D ac b own cc nL rt i0 fr lo mc ms r cs sl q (stl i v lv) st N M) : V l D ac b own cc nL rt i0 fr lo mc ms r cs sl pc lv (v :: st) N M := by
  subst hq
  intro p e s m args below meth c H locs ls Qc F hR hS hl hQ
  rcases hv with rfl | ⟨a, rfl⟩
  · exact lv_astoreN F.1 F.2.1 hd hl hn (stl_map i .null lv) (fun ls hl => k p e s m args below meth c H locs ls Qc F hR hS hl hQ)
  · exact lv_astore F.1 F.2.1 hd hl hn (stl_map i (.ref a) lv) (fun ls hl => k p e s m args below meth c H locs ls Qc F hR hS hl hQ)
theorem s_iinc {i : Nat} {n : Int} {x v : Int32} (hd : decode cc pc = .ok (.iinc i n, 3)) (hq : pc + 3 = q) (hg : lv.lookup i = some (.int x)) (hv : x + Int32.ofInt n = v) (hn : i < nL) (k : V l D ac b own cc nL rt i0 fr lo mc ms r cs sl q (stl i (.int v) lv) st N M) : V l D ac b own cc nL rt i0 fr lo mc ms r cs sl pc lv st N M := by
  subst hq
  intro p e s m args below meth c H locs ls Qc F hR hS hl hQ
  have h1 := lg_at hl hg
  have hl2 : lv_has ls nL ((i, .int x) :: lv.map (el b)) := ⟨hl.1, hl.2.1, fun y hy => (List.mem_cons.mp hy).elim (fun e => e ▸ h1) (hl.2.2 y)⟩
  refine lv_iinc (k := 0) F.1 F.2.1 hd hl2 rfl hv hn rfl (fun ls hl => ?_)
  refine k p e s m args below meth c H locs ls Qc F hR hS ?_ hQ
  rw [← stl_map]
  refine ⟨hl.1, hl.2.1, fun y hy => hl.2.2 y ?_⟩
  rw [List.filter_cons]
  split
  · exact (List.mem_cons.mp hy).elim (fun e => List.mem_cons.mpr (Or.inl e)) (fun h => List.mem_cons_of_mem _ (List.mem_cons_of_mem _ h))
  · exact hy
theorem s_if_eq {x : Int32} {off : Int} {tgt : Nat} (hd : decode cc pc = .ok (.ifCond .eq off, 3)) (ht : (pc : Int) + off = (tgt : Int)) (hq : pc + 3 = q) (kt : x = 0 → V l D ac b own cc nL rt i0 fr lo mc ms r cs sl tgt lv st N M) (kf : ¬ x = 0 → V l D ac b own cc nL rt i0 fr lo mc ms r cs sl q lv st N M) : V l D ac b own cc nL rt i0 fr lo mc ms r cs sl pc lv (.int x :: st) N M := by
  subst hq
  intro p e s m args below meth c H locs ls Qc F hR hS hl hQ
  exact lv_if_eq F.1 F.2.1 hd ht (fun z => kt z p e s m args below meth c H locs ls Qc F hR hS hl hQ) (fun z => kf z p e s m args below meth c H locs ls Qc F hR hS hl hQ)
theorem s_icmp_eq {x y : Int32} {off : Int} {tgt : Nat} (hd : decode cc pc = .ok (.if_icmp .eq off, 3)) (ht : (pc : Int) + off = (tgt : Int)) (hq : pc + 3 = q) (kt : x = y → V l D ac b own cc nL rt i0 fr lo mc ms r cs sl tgt lv st N M) (kf : ¬ x = y → V l D ac b own cc nL rt i0 fr lo mc ms r cs sl q lv st N M) : V l D ac b own cc nL rt i0 fr lo mc ms r cs sl pc lv (.int y :: .int x :: st) N M := by
  subst hq
  intro p e s m args below meth c H locs ls Qc F hR hS hl hQ
  exact lv_icmp_eq F.1 F.2.1 hd ht (fun z => kt z p e s m args below meth c H locs ls Qc F hR hS hl hQ) (fun z => kf z p e s m args below meth c H locs ls Qc F hR hS hl hQ)
theorem s_if_ne {x : Int32} {off : Int} {tgt : Nat} (hd : decode cc pc = .ok (.ifCond .ne off, 3)) (ht : (pc : Int) + off = (tgt : Int)) (hq : pc + 3 = q) (kt : ¬ x = 0 → V l D ac b own cc nL rt i0 fr lo mc ms r cs sl tgt lv st N M) (kf : x = 0 → V l D ac b own cc nL rt i0 fr lo mc ms r cs sl q lv st N M) : V l D ac b own cc nL rt i0 fr lo mc ms r cs sl pc lv (.int x :: st) N M := by
  subst hq
  intro p e s m args below meth c H locs ls Qc F hR hS hl hQ
  exact lv_if_ne F.1 F.2.1 hd ht (fun z => kt z p e s m args below meth c H locs ls Qc F hR hS hl hQ) (fun z => kf z p e s m args below meth c H locs ls Qc F hR hS hl hQ)
theorem s_icmp_ne {x y : Int32} {off : Int} {tgt : Nat} (hd : decode cc pc = .ok (.if_icmp .ne off, 3)) (ht : (pc : Int) + off = (tgt : Int)) (hq : pc + 3 = q) (kt : ¬ x = y → V l D ac b own cc nL rt i0 fr lo mc ms r cs sl tgt lv st N M) (kf : x = y → V l D ac b own cc nL rt i0 fr lo mc ms r cs sl q lv st N M) : V l D ac b own cc nL rt i0 fr lo mc ms r cs sl pc lv (.int y :: .int x :: st) N M := by
  subst hq
  intro p e s m args below meth c H locs ls Qc F hR hS hl hQ
  exact lv_icmp_ne F.1 F.2.1 hd ht (fun z => kt z p e s m args below meth c H locs ls Qc F hR hS hl hQ) (fun z => kf z p e s m args below meth c H locs ls Qc F hR hS hl hQ)
theorem s_if_lt {x : Int32} {off : Int} {tgt : Nat} (hd : decode cc pc = .ok (.ifCond .lt off, 3)) (ht : (pc : Int) + off = (tgt : Int)) (hq : pc + 3 = q) (kt : x < 0 → V l D ac b own cc nL rt i0 fr lo mc ms r cs sl tgt lv st N M) (kf : ¬ x < 0 → V l D ac b own cc nL rt i0 fr lo mc ms r cs sl q lv st N M) : V l D ac b own cc nL rt i0 fr lo mc ms r cs sl pc lv (.int x :: st) N M := by
  subst hq
  intro p e s m args below meth c H locs ls Qc F hR hS hl hQ
  exact lv_if_lt F.1 F.2.1 hd ht (fun z => kt z p e s m args below meth c H locs ls Qc F hR hS hl hQ) (fun z => kf z p e s m args below meth c H locs ls Qc F hR hS hl hQ)
theorem s_icmp_lt {x y : Int32} {off : Int} {tgt : Nat} (hd : decode cc pc = .ok (.if_icmp .lt off, 3)) (ht : (pc : Int) + off = (tgt : Int)) (hq : pc + 3 = q) (kt : x < y → V l D ac b own cc nL rt i0 fr lo mc ms r cs sl tgt lv st N M) (kf : ¬ x < y → V l D ac b own cc nL rt i0 fr lo mc ms r cs sl q lv st N M) : V l D ac b own cc nL rt i0 fr lo mc ms r cs sl pc lv (.int y :: .int x :: st) N M := by
  subst hq
  intro p e s m args below meth c H locs ls Qc F hR hS hl hQ
  exact lv_icmp_lt F.1 F.2.1 hd ht (fun z => kt z p e s m args below meth c H locs ls Qc F hR hS hl hQ) (fun z => kf z p e s m args below meth c H locs ls Qc F hR hS hl hQ)
theorem s_if_ge {x : Int32} {off : Int} {tgt : Nat} (hd : decode cc pc = .ok (.ifCond .ge off, 3)) (ht : (pc : Int) + off = (tgt : Int)) (hq : pc + 3 = q) (kt : 0 ≤ x → V l D ac b own cc nL rt i0 fr lo mc ms r cs sl tgt lv st N M) (kf : ¬ 0 ≤ x → V l D ac b own cc nL rt i0 fr lo mc ms r cs sl q lv st N M) : V l D ac b own cc nL rt i0 fr lo mc ms r cs sl pc lv (.int x :: st) N M := by
  subst hq
  intro p e s m args below meth c H locs ls Qc F hR hS hl hQ
  exact lv_if_ge F.1 F.2.1 hd ht (fun z => kt z p e s m args below meth c H locs ls Qc F hR hS hl hQ) (fun z => kf z p e s m args below meth c H locs ls Qc F hR hS hl hQ)
theorem s_icmp_ge {x y : Int32} {off : Int} {tgt : Nat} (hd : decode cc pc = .ok (.if_icmp .ge off, 3)) (ht : (pc : Int) + off = (tgt : Int)) (hq : pc + 3 = q) (kt : y ≤ x → V l D ac b own cc nL rt i0 fr lo mc ms r cs sl tgt lv st N M) (kf : ¬ y ≤ x → V l D ac b own cc nL rt i0 fr lo mc ms r cs sl q lv st N M) : V l D ac b own cc nL rt i0 fr lo mc ms r cs sl pc lv (.int y :: .int x :: st) N M := by
  subst hq
  intro p e s m args below meth c H locs ls Qc F hR hS hl hQ
  exact lv_icmp_ge F.1 F.2.1 hd ht (fun z => kt z p e s m args below meth c H locs ls Qc F hR hS hl hQ) (fun z => kf z p e s m args below meth c H locs ls Qc F hR hS hl hQ)
theorem s_if_gt {x : Int32} {off : Int} {tgt : Nat} (hd : decode cc pc = .ok (.ifCond .gt off, 3)) (ht : (pc : Int) + off = (tgt : Int)) (hq : pc + 3 = q) (kt : 0 < x → V l D ac b own cc nL rt i0 fr lo mc ms r cs sl tgt lv st N M) (kf : ¬ 0 < x → V l D ac b own cc nL rt i0 fr lo mc ms r cs sl q lv st N M) : V l D ac b own cc nL rt i0 fr lo mc ms r cs sl pc lv (.int x :: st) N M := by
  subst hq
  intro p e s m args below meth c H locs ls Qc F hR hS hl hQ
  exact lv_if_gt F.1 F.2.1 hd ht (fun z => kt z p e s m args below meth c H locs ls Qc F hR hS hl hQ) (fun z => kf z p e s m args below meth c H locs ls Qc F hR hS hl hQ)
theorem s_icmp_gt {x y : Int32} {off : Int} {tgt : Nat} (hd : decode cc pc = .ok (.if_icmp .gt off, 3)) (ht : (pc : Int) + off = (tgt : Int)) (hq : pc + 3 = q) (kt : y < x → V l D ac b own cc nL rt i0 fr lo mc ms r cs sl tgt lv st N M) (kf : ¬ y < x → V l D ac b own cc nL rt i0 fr lo mc ms r cs sl q lv st N M) : V l D ac b own cc nL rt i0 fr lo mc ms r cs sl pc lv (.int y :: .int x :: st) N M := by
  subst hq
  intro p e s m args below meth c H locs ls Qc F hR hS hl hQ
  exact lv_icmp_gt F.1 F.2.1 hd ht (fun z => kt z p e s m args below meth c H locs ls Qc F hR hS hl hQ) (fun z => kf z p e s m args below meth c H locs ls Qc F hR hS hl hQ)
theorem s_if_le {x : Int32} {off : Int} {tgt : Nat} (hd : decode cc pc = .ok (.ifCond .le off, 3)) (ht : (pc : Int) + off = (tgt : Int)) (hq : pc + 3 = q) (kt : x ≤ 0 → V l D ac b own cc nL rt i0 fr lo mc ms r cs sl tgt lv st N M) (kf : ¬ x ≤ 0 → V l D ac b own cc nL rt i0 fr lo mc ms r cs sl q lv st N M) : V l D ac b own cc nL rt i0 fr lo mc ms r cs sl pc lv (.int x :: st) N M := by
  subst hq
  intro p e s m args below meth c H locs ls Qc F hR hS hl hQ
  exact lv_if_le F.1 F.2.1 hd ht (fun z => kt z p e s m args below meth c H locs ls Qc F hR hS hl hQ) (fun z => kf z p e s m args below meth c H locs ls Qc F hR hS hl hQ)
theorem s_icmp_le {x y : Int32} {off : Int} {tgt : Nat} (hd : decode cc pc = .ok (.if_icmp .le off, 3)) (ht : (pc : Int) + off = (tgt : Int)) (hq : pc + 3 = q) (kt : x ≤ y → V l D ac b own cc nL rt i0 fr lo mc ms r cs sl tgt lv st N M) (kf : ¬ x ≤ y → V l D ac b own cc nL rt i0 fr lo mc ms r cs sl q lv st N M) : V l D ac b own cc nL rt i0 fr lo mc ms r cs sl pc lv (.int y :: .int x :: st) N M := by
  subst hq
  intro p e s m args below meth c H locs ls Qc F hR hS hl hQ
  exact lv_icmp_le F.1 F.2.1 hd ht (fun z => kt z p e s m args below meth c H locs ls Qc F hR hS hl hQ) (fun z => kf z p e s m args below meth c H locs ls Qc F hR hS hl hQ)
theorem s_goto {off : Int} {tgt : Nat} (hd : decode cc pc = .ok (.goto off, 3)) (ht : (pc : Int) + off = (tgt : Int)) (k : V l D ac b own cc nL rt i0 fr lo mc ms r cs sl tgt lv st N M) : V l D ac b own cc nL rt i0 fr lo mc ms r cs sl pc lv st N M := by
  intro p e s m args below meth c H locs ls Qc F hR hS hl hQ
  exact lv_goto F.1 F.2.1 hd ht (k p e s m args below meth c H locs ls Qc F hR hS hl hQ)
theorem s_ifnull_r {a : Nat} {off : Int} (hd : decode cc pc = .ok (.ifnull off, 3)) (hq : pc + 3 = q) (k : V l D ac b own cc nL rt i0 fr lo mc ms r cs sl q lv st N M) : V l D ac b own cc nL rt i0 fr lo mc ms r cs sl pc lv (.ref a :: st) N M := by
  subst hq
  intro p e s m args below meth c H locs ls Qc F hR hS hl hQ
  exact lv_ifnull F.1 F.2.1 hd (k p e s m args below meth c H locs ls Qc F hR hS hl hQ)
theorem s_ifnull_n {off : Int} {tgt : Nat} (hd : decode cc pc = .ok (.ifnull off, 3)) (ht : (pc : Int) + off = (tgt : Int)) (k : V l D ac b own cc nL rt i0 fr lo mc ms r cs sl tgt lv st N M) : V l D ac b own cc nL rt i0 fr lo mc ms r cs sl pc lv (.null :: st) N M := by
  intro p e s m args below meth c H locs ls Qc F hR hS hl hQ
  exact lv_ifnullN F.1 F.2.1 hd ht (k p e s m args below meth c H locs ls Qc F hR hS hl hQ)
theorem s_ifnonnull_r {a : Nat} {off : Int} {tgt : Nat} (hd : decode cc pc = .ok (.ifnonnull off, 3)) (ht : (pc : Int) + off = (tgt : Int)) (k : V l D ac b own cc nL rt i0 fr lo mc ms r cs sl tgt lv st N M) : V l D ac b own cc nL rt i0 fr lo mc ms r cs sl pc lv (.ref a :: st) N M := by
  intro p e s m args below meth c H locs ls Qc F hR hS hl hQ
  exact lv_ifnonnull F.1 F.2.1 hd ht (k p e s m args below meth c H locs ls Qc F hR hS hl hQ)
theorem s_ifnonnull_n {off : Int} (hd : decode cc pc = .ok (.ifnonnull off, 3)) (hq : pc + 3 = q) (k : V l D ac b own cc nL rt i0 fr lo mc ms r cs sl q lv st N M) : V l D ac b own cc nL rt i0 fr lo mc ms r cs sl pc lv (.null :: st) N M := by
  subst hq
  intro p e s m args below meth c H locs ls Qc F hR hS hl hQ
  exact lv_ifnonnullN F.1 F.2.1 hd (k p e s m args below meth c H locs ls Qc F hR hS hl hQ)
theorem s_tsOut {dflt lo1 hi1 : Int} {offs : Array Int} {len : Nat} {x : Int32} {tgt : Nat} (hd : decode cc pc = .ok (.tableswitch dflt lo1 hi1 offs, len)) (h : x.toInt < lo1 ∨ hi1 < x.toInt) (ht : (pc : Int) + dflt = (tgt : Int)) (k : V l D ac b own cc nL rt i0 fr lo mc ms r cs sl tgt lv st N M) : V l D ac b own cc nL rt i0 fr lo mc ms r cs sl pc lv (.int x :: st) N M := by
  intro p e s m args below meth c H locs ls Qc F hR hS hl hQ
  exact lv_tableOut F.1 F.2.1 hd h ht (k p e s m args below meth c H locs ls Qc F hR hS hl hQ)
theorem s_tsIn {dflt lo1 hi1 : Int} {offs : Array Int} {len : Nat} {x : Int32} {off : Int} {tgt : Nat} (hd : decode cc pc = .ok (.tableswitch dflt lo1 hi1 offs, len)) (h1 : ¬ x.toInt < lo1) (h2 : ¬ hi1 < x.toInt) (ho : offs[(x.toInt - lo1).toNat]? = some off) (ht : (pc : Int) + off = (tgt : Int)) (k : V l D ac b own cc nL rt i0 fr lo mc ms r cs sl tgt lv st N M) : V l D ac b own cc nL rt i0 fr lo mc ms r cs sl pc lv (.int x :: st) N M := by
  intro p e s m args below meth c H locs ls Qc F hR hS hl hQ
  exact lv_tableIn F.1 F.2.1 hd h1 h2 ho ht (k p e s m args below meth c H locs ls Qc F hR hS hl hQ)
theorem s_ls {dflt : Int} {ps : Array (Int × Int)} {len : Nat} {x : Int32} {off : Int} {tgt : Nat} (hd : decode cc pc = .ok (.lookupswitch dflt ps, len)) (hp : (ps.toList.zip (ps.toList.drop 1)).all (fun (a, next) => a.1 < next.1) = true) (ho : Op.lookupswitch.offset ps.toList dflt x.toInt = off) (ht : (pc : Int) + off = (tgt : Int)) (k : V l D ac b own cc nL rt i0 fr lo mc ms r cs sl tgt lv st N M) : V l D ac b own cc nL rt i0 fr lo mc ms r cs sl pc lv (.int x :: st) N M := by
  intro p e s m args below meth c H locs ls Qc F hR hS hl hQ
  exact lv_lookup F.1 F.2.1 hd hp ho ht (k p e s m args below meth c H locs ls Qc F hR hS hl hQ)
theorem s_get {i a ci kf : Nat} {fs : List Value} {v : Value} (hd : decode cc pc = .ok (.getfield i, 3)) (hq : pc + 3 = q) (hF : FL own i ci kf) (hA : At N M a (.inr (ci, fs))) (hv : fs[kf]? = some v) (k : V l D ac b own cc nL rt i0 fr lo mc ms r cs sl q lv (v :: st) N M) : V l D ac b own cc nL rt i0 fr lo mc ms r cs sl pc lv (.ref a :: st) N M := by
  subst hq
  intro p e s m args below meth c H locs ls Qc F hR hS hl hQ
  obtain ⟨hlk, hk, hci⟩ := hF
  refine va_get (D := D) (ci := ci) (v := ev b v) (C := fR ci) (T := fT ci) (N := fN ci) F.1 F.2.1 F.2.2.2.2.2.1 (inG hci) F.2.2.2.2.1 F.2.2.2.2.2.2.2.1.1 hR.1.2 a (wsM_at hA) (clsL_at hci) kf hk (F.2.2.2.2.2.1 _ hlk) (fun _ h9 => h9) ?_ hd (k p e s m args below meth c H locs ls Qc F hR hS hl hQ)
  rw [List.getElem?_map, hv]
  rfl
def okV (ty : FieldType) (v : Value) : Prop := ∀ b, narrow ty (ev b v) = ev b v ∧ fits ty (ev b v) = true
theorem Rp.next {M' : Mem} {H H1 : Heap} {sz : Nat} (h : Rp D ac b N M H ∧ b + N = sz + cs) (h1 : H.size ≤ H1.size) (h2 : H1.size ≤ sz + cs) (hP : va_P D clsL (wsM b ac N M') H1) : Rp D ac b N M' H1 ∧ b + N = sz + cs := ⟨⟨by have := h.1.1; have := h.2; omega, hP⟩, h.2⟩
theorem s_put {i a ci kf : Nat} {fs : List Value} {v : Value} (hd : decode cc pc = .ok (.putfield i, 3)) (hq : pc + 3 = q) (hF : FL own i ci kf) (hA : At N M a (.inr (ci, fs))) (hfin : (fT ci kf).2.2.2 = false) (hok : okV (fY ci kf) v) (hl2 : kf < fs.length) (k : V l D ac b own cc nL rt i0 fr lo mc ms r cs sl q lv st N (um M a (.inr (ci, fs.set kf v)))) : V l D ac b own cc nL rt i0 fr lo mc ms r cs sl pc lv (v :: .ref a :: st) N M := by
  subst hq
  intro p e s m args below meth c H locs ls Qc F hR hS hl hQ
  obtain ⟨hlk, hk, hci⟩ := hF
  refine va_put (D := D) (ci := ci) (v := ev b v) (ty := fY ci kf) (C := fR ci) (T := fT ci) (N := fN ci) F.1 F.2.1 F.2.2.2.2.2.1 (inG hci) (fY ci) (fY_ok hci) (fm_ok hci) F.2.2.2.2.1 F.2.2.2.2.2.2.2.1.1 hR.1.2 wsM_D hS.here a (wsM_at hA) (clsL_at hci) kf hk (F.2.2.2.2.2.1 _ hlk) (fun _ h9 => h9) hfin (fY_ok hci kf hk) (hok b).1 (hok b).2 (by simpa using hl2) hd (fun H1 locs1 hP1 hD1 hS1 => W_sz (fun hz => ?_))
  have e1 : (wsM b ac N M).set a (b + a, .inr (ci, (fs.map (ev b)).set kf (ev b v))) = wsM b ac N (um M a (.inr (ci, fs.set kf v))) := by
    rw [← wsM_set _ hA.1, ← List.map_set]
    rfl
  rw [e1] at hP1
  exact k p e s m args below meth c H1 locs1 ls Qc F (Rp.next hR hS1.1 hz hP1) (hS.thn hS1) hl hQ
theorem s_putF {i a ci kf : Nat} {fs : List Value} {v : Value} (hi0 : i0 = true) (hd : decode cc pc = .ok (.putfield i, 3)) (hq : pc + 3 = q) (hF : FL own i ci kf) (hA : At N M a (.inr (ci, fs))) (hfin : (fT ci kf).2.2.2 = true) (hdecl : (fT ci kf).1 = own) (hok : okV (fY ci kf) v) (hl2 : kf < fs.length) (k : V l D ac b own cc nL rt i0 fr lo mc ms r cs sl q lv st N (um M a (.inr (ci, fs.set kf v)))) : V l D ac b own cc nL rt i0 fr lo mc ms r cs sl pc lv (v :: .ref a :: st) N M := by
  subst hq
  intro p e s m args below meth c H locs ls Qc F hR hS hl hQ
  obtain ⟨hlk, hk, hci⟩ := hF
  refine va_putF (D := D) (ci := ci) (v := ev b v) (ty := fY ci kf) (C := fR ci) (T := fT ci) (N := fN ci) F.1 F.2.1 F.2.2.2.2.2.1 (inG hci) (fY ci) (fY_ok hci) (fm_ok hci) F.2.2.2.2.1 F.2.2.2.2.2.2.2.1.1 hR.1.2 wsM_D hS.here a (wsM_at hA) (clsL_at hci) kf hk (F.2.2.2.2.2.1 _ hlk) (fun _ h9 => h9) hfin (F.2.2.2.2.2.2.2.2.2 hi0) hdecl (fY_ok hci kf hk) (hok b).1 (hok b).2 (by simpa using hl2) hd (fun H1 locs1 hP1 hD1 hS1 => W_sz (fun hz => ?_))
  have e1 : (wsM b ac N M).set a (b + a, .inr (ci, (fs.map (ev b)).set kf (ev b v))) = wsM b ac N (um M a (.inr (ci, fs.set kf v))) := by
    rw [← wsM_set _ hA.1, ← List.map_set]
    rfl
  rw [e1] at hP1
  exact k p e s m args below meth c H1 locs1 ls Qc F (Rp.next hR hS1.1 hz hP1) (hS.thn hS1) hl hQ
theorem tyL_at (ac : Nat → ClassId) {t : Nat} (h : t < 6) : (tyL ac)[t]? = some (ac t, aty t) := by
  rcases (show t = 0 ∨ t = 1 ∨ t = 2 ∨ t = 3 ∨ t = 4 ∨ t = 5 by omega) with rfl | rfl | rfl | rfl | rfl | rfl <;> rfl
theorem s_iald {a n j : Nat} {f : Nat → Int32} {i : Int32} (hd : decode cc pc = .ok (.iaload, 1)) (hq : pc + 1 = q) (hA : At N M a (.inl (0, n, .inl f))) (hi : i = nI j) (hj : j < n) (hn : n < 2147483648) (k : V l D ac b own cc nL rt i0 fr lo mc ms r cs sl q lv (.int (f j) :: st) N M) : V l D ac b own cc nL rt i0 fr lo mc ms r cs sl pc lv (.int i :: .ref a :: st) N M := by
  subst hq
  subst hi
  intro p e s m args below meth c H locs ls Qc F hR hS hl hQ
  refine va_iald F.1 F.2.1 F.2.2.2.2.2.2.2.1.1 hR.1.2 a 0 (n := n) (f := f) (wsM_at hA) (tyL_at ac (by decide)) (vp_in_nI hj hn) hd ?_
  rw [nI_clamp (by omega)]
  exact k p e s m args below meth c H locs ls Qc F hR hS hl hQ
theorem s_zald {a n j : Nat} {f : Nat → Int32} {i : Int32} (hd : decode cc pc = .ok (.baload, 1)) (hq : pc + 1 = q) (hA : At N M a (.inl (1, n, .inl f))) (hi : i = nI j) (hj : j < n) (hn : n < 2147483648) (k : V l D ac b own cc nL rt i0 fr lo mc ms r cs sl q lv (.int (f j) :: st) N M) : V l D ac b own cc nL rt i0 fr lo mc ms r cs sl pc lv (.int i :: .ref a :: st) N M := by
  subst hq
  subst hi
  intro p e s m args below meth c H locs ls Qc F hR hS hl hQ
  refine va_zald F.1 F.2.1 F.2.2.2.2.2.2.2.1.1 hR.1.2 a 1 (n := n) (f := f) (wsM_at hA) (tyL_at ac (by decide)) (vp_in_nI hj hn) hd ?_
  rw [nI_clamp (by omega)]
  exact k p e s m args below meth c H locs ls Qc F hR hS hl hQ
theorem s_aald {a t n j k0 : Nat} {f : Nat → Option Nat} {i : Int32} {C : String} (hd : decode cc pc = .ok (.aaload, 1)) (hq : pc + 1 = q) (hA : At N M a (.inl (t, n, .inr f))) (ht : t < 6) (hty : aty t = .object C) (hi : i = nI j) (hj : j < n) (hn : n < 2147483648) (hf : f j = some k0) (k : V l D ac b own cc nL rt i0 fr lo mc ms r cs sl q lv (.ref k0 :: st) N M) : V l D ac b own cc nL rt i0 fr lo mc ms r cs sl pc lv (.int i :: .ref a :: st) N M := by
  subst hq
  subst hi
  intro p e s m args below meth c H locs ls Qc F hR hS hl hQ
  refine va_aldq (C := C) F.1 F.2.1 F.2.2.2.2.2.2.2.1.1 hR.1.2 a t (n := n) (f := fun i => (f i).map (fun k => b + k)) (wsM_at hA) ((tyL_at ac ht).trans (by rw [hty])) (vp_in_nI hj hn) hd ?_
  rw [nI_clamp (by omega), hf]
  exact k p e s m args below meth c H locs ls Qc F hR hS hl hQ
theorem s_iast {a n j : Nat} {f : Nat → Int32} {i x : Int32} (hd : decode cc pc = .ok (.iastore, 1)) (hq : pc + 1 = q) (hA : At N M a (.inl (0, n, .inl f))) (hi : i = nI j) (hj : j < n) (hn : n < 2147483648) (k : V l D ac b own cc nL rt i0 fr lo mc ms r cs sl q lv st N (um M a (.inl (0, n, .inl (upd f j x))))) : V l D ac b own cc nL rt i0 fr lo mc ms r cs sl pc lv (.int x :: .int i :: .ref a :: st) N M := by
  subst hq
  subst hi
  intro p e s m args below meth c H locs ls Qc F hR hS hl hQ
  refine va_iast F.1 F.2.1 F.2.2.2.2.2.2.2.1.1 hR.1.2 wsM_D hS.here a 0 (n := n) (f := f) (wsM_at hA) (tyL_at ac (by decide)) (vp_in_nI hj hn) hd (fun H1 locs1 hP1 hD1 hS1 => W_sz (fun hz => ?_))
  rw [nI_clamp (by omega)] at hP1
  have e1 := wsM_set (b := b) (ac := ac) (M := M) (.inl (0, n, .inl (upd f j x))) hA.1
  exact k p e s m args below meth c H1 locs1 ls Qc F (Rp.next hR hS1.1 hz (e1 ▸ hP1)) (hS.thn hS1) hl hQ
theorem s_zast {a n j : Nat} {f : Nat → Int32} {i x : Int32} (hd : decode cc pc = .ok (.bastore, 1)) (hq : pc + 1 = q) (hA : At N M a (.inl (1, n, .inl f))) (hi : i = nI j) (hj : j < n) (hn : n < 2147483648) (hx : vp_nar .boolean x = x) (k : V l D ac b own cc nL rt i0 fr lo mc ms r cs sl q lv st N (um M a (.inl (1, n, .inl (upd f j x))))) : V l D ac b own cc nL rt i0 fr lo mc ms r cs sl pc lv (.int x :: .int i :: .ref a :: st) N M := by
  subst hq
  subst hi
  intro p e s m args below meth c H locs ls Qc F hR hS hl hQ
  refine va_zast F.1 F.2.1 F.2.2.2.2.2.2.2.1.1 hR.1.2 wsM_D hS.here a 1 (n := n) (f := f) (wsM_at hA) (tyL_at ac (by decide)) (vp_in_nI hj hn) hd (fun H1 locs1 hP1 hD1 hS1 => W_sz (fun hz => ?_))
  rw [nI_clamp (by omega), hx] at hP1
  have e1 := wsM_set (b := b) (ac := ac) (M := M) (.inl (1, n, .inl (upd f j x))) hA.1
  exact k p e s m args below meth c H1 locs1 ls Qc F (Rp.next hR hS1.1 hz (e1 ▸ hP1)) (hS.thn hS1) hl hQ
theorem s_alen {a t n : Nat} {g : (Nat → Int32) ⊕ (Nat → Option Nat)} (hd : decode cc pc = .ok (.arraylength, 1)) (hq : pc + 1 = q) (hA : At N M a (.inl (t, n, g))) (ht : t < 6) (k : V l D ac b own cc nL rt i0 fr lo mc ms r cs sl q lv (.int (nI n) :: st) N M) : V l D ac b own cc nL rt i0 fr lo mc ms r cs sl pc lv (.ref a :: st) N M := by
  subst hq
  intro p e s m args below meth c H locs ls Qc F hR hS hl hQ
  cases g with
  | inl f => exact va_alen F.1 F.2.1 F.2.2.2.2.2.2.2.1.1 hR.1.2 a t (wsM_at hA) (tyL_at ac ht) rfl hd (k p e s m args below meth c H locs ls Qc F hR hS hl hQ)
  | inr f => exact va_alen F.1 F.2.1 F.2.2.2.2.2.2.2.1.1 hR.1.2 a t (wsM_at hA) (tyL_at ac ht) rfl hd (k p e s m args below meth c H locs ls Qc F hR hS hl hQ)
-- returns
theorem s_iret {v : Int32} {ty : FieldType} (hd : decode cc pc = .ok (.ireturn, 1)) (hrt : rt = some ty) (hn : narrow ty (.int v) = .int v) (h1 : cs ≤ mc) (h2 : sl ≤ ms) (hr : r = (some (.int v), N, M)) : V l D ac b own cc nL rt i0 fr lo mc ms r cs sl pc lv [.int v] N M := by
  subst hr
  intro p e s m args below meth c H locs ls Qc F hR hS hl hQ
  exact W.widen h1 h2 (W.zret F.1 F.2.1 (F.2.2.2.1.trans hrt) hn (fun t ht hW => hQ t (by rw [ht]; exact hR.1) hW (hS.F ht)) hS.2.2 hd F.2.2.2.2.2.2.1)
theorem s_lret {v : Int64} (hd : decode cc pc = .ok (.lreturn, 1)) (hrt : rt = some .long) (h1 : cs ≤ mc) (h2 : sl ≤ ms) (hr : r = (some (.long v), N, M)) : V l D ac b own cc nL rt i0 fr lo mc ms r cs sl pc lv [.long v] N M := by
  subst hr
  intro p e s m args below meth c H locs ls Qc F hR hS hl hQ
  exact W.widen h1 h2 (W.lret F.1 F.2.1 (F.2.2.2.1.trans hrt) (fun t ht hW => hQ t (by rw [ht]; exact hR.1) hW (hS.F ht)) hS.2.2 hd F.2.2.2.2.2.2.1)
theorem s_ret (hd : decode cc pc = .ok (.return_, 1)) (hrt : rt = none) (h1 : cs ≤ mc) (h2 : sl ≤ ms) (hr : r = (none, N, M)) : V l D ac b own cc nL rt i0 fr lo mc ms r cs sl pc lv [] N M := by
  subst hr
  intro p e s m args below meth c H locs ls Qc F hR hS hl hQ
  exact W.widen h1 h2 (W.vret F.1 F.2.1 (F.2.2.2.1.trans hrt) (fun t ht hW => hQ t (by rw [ht]; exact hR.1) hW (hS.F ht)) hS.2.2 hd F.2.2.2.2.2.2.1)
theorem s_aret {v : Value} {C : String} (hd : decode cc pc = .ok (.areturn, 1)) (hrt : rt = some (.object C)) (hv : v = .null ∨ ∃ a, v = .ref a) (h1 : cs ≤ mc) (h2 : sl ≤ ms) (hr : r = (some v, N, M)) : V l D ac b own cc nL rt i0 fr lo mc ms r cs sl pc lv [v] N M := by
  subst hr
  intro p e s m args below meth c H locs ls Qc F hR hS hl hQ
  refine W.widen h1 h2 (W.aret F.1 F.2.1 (F.2.2.2.1.trans hrt) (Or.inl ⟨C, rfl⟩) ?_ (fun t ht hW => hQ t (by rw [ht]; exact hR.1) hW (hS.F ht)) hS.2.2 hd F.2.2.2.2.2.2.1)
  rcases hv with rfl | ⟨a, rfl⟩
  · exact Or.inl rfl
  · exact Or.inr ⟨b + a, rfl⟩
theorem ev_back {v : Option Value} {st0 : List Value} : (v.map (ev b)).toList ++ st0.map (ev b) = (v.toList ++ st0).map (ev b) := by cases v <;> rfl
/-- behind a call -/
theorem s_run {av0 : List Value} {st0 : List Value} {r1 : RS} {mc1 ms1 : Nat} (hN : r1.2.1 = N + mc1)
    (hrun : ∀ (p : Program) (e : Env) (s : State) (m : MethodId) (args : Array Value) (below : List Frame) (meth : Method) (c : Code) (H : Heap) (locs : List Loc) (ls : Array Slot), Fx D ac b own cc nL rt i0 p s m args meth c → Rp D ac b N M H → lv_has ls nL (lv.map (el b)) → va_Run p l e ({ frames := fr, cells := mc, slots := ms, locals := lo }) s m args below meth c H locs cs sl mc1 ms1 (F0 m pc ls (st.map (ev b))) (st0.map (ev b)) (Pst D ac b r1 (av0.map (ev b)).toArray) (fun q => b ≤ q))
    (k : V l D ac b own cc nL rt i0 fr lo mc ms r (cs + mc1) (sl + ms1) (pc + 3) lv (r1.1.toList ++ st0) r1.2.1 r1.2.2) : V l D ac b own cc nL rt i0 fr lo mc ms r cs sl pc lv st N M := by
  intro p e s m args below meth c H locs ls Qc F hR hS hl hQ T hT X
  obtain ⟨v, st₀, t, T', L, h0, X', hL, e1, e2, hq, hst⟩ := hrun p e s m args below meth c H locs ls F hR.1 hl T hT X
  obtain ⟨hv, hR', hF'⟩ := hq
  have hv2 : v = r1.1.map (ev b) := by simpa using hv
  subst hv2
  have hS' : va_S (fun q => b ≤ q) s.heap T'.heap (locs ++ L) := by
    refine ⟨by rw [e1]; exact Nat.le_trans hS.1 (by rw [← h0]; exact hF'.1), fun q h1 h2 => ?_, fun q hq => ?_⟩
    · rw [e1, hF'.2 q (by rw [h0]; exact Nat.lt_of_lt_of_le h1 hS.1) h2, h0]
      exact hS.2.1 q h1 h2
    · rcases List.mem_append.mp hq with h | h
      · exact hS.2.2 q h
      · exact hL q h
  obtain ⟨t2, a1, b1⟩ := k p e s m args below meth c T'.heap (locs ++ L) ls Qc F ⟨by rw [e1]; exact hR', by have := hR.2; omega⟩ hS' hl hQ T' rfl X'
  refine ⟨t2, hst t2 ?_, b1⟩
  rw [ev_back]
  exact a1
theorem callB_y {R : Room} {s : State} {args : Array Value} {idx : Nat} {y : MethodName} {cy : ByteArray} {nLy : Nat} {rty : Option FieldType} {n fr1 lo1 mc1 ms1 : Nat} (hts : ∀ w ∈ tbG, w.before args s = true) (hm : MX y cy nLy rty n) (hl : Cond.methodLink own idx y ∈ tbG) (hroom : fr1 + 1 ≤ R.frames ∧ 8 + (nLy + 11) + lo1 ≤ R.locals) : CallB R s args own idx y cy nLy rty (Cond.code y cy nLy rty :: tbG) ({ frames := fr1, cells := mc1, slots := ms1, locals := lo1 }) mc1 ms1 n :=
  callB_of n hts (tbG_good hm.1) rfl rfl rfl (hts _ hm.2.1) (hts _ hl) hm.2.2 hroom
theorem Pre.at {s U : State} {H : Heap} {av : List Value} {y : MethodName} (hR : Rp D ac b N M H) (hK : Kx D ac s) (hU : U.heap = H) (hW : s.WarmedH U.vm) : Pre D ac b N M av (av.map (ev b)).toArray U := ⟨rfl, by rw [hU]; exact hR, hK.warm hW⟩
theorem s_callV {idx a ci : Nat} {y : MethodName} {cy : ByteArray} {nLy : Nat} {rty : Option FieldType} {n fr1 lo1 mc1 ms1 : Nat} {As st0 fs : List Value} {r1 : RS} (hd : decode cc pc = .ok (.invokevirtual idx, 3)) (hq : pc + 3 = q) (hl : Cond.methodLink own idx y ∈ tbG) (hm : MX y cy nLy rty n) (hv : MV y ci) (hC : Ct l D ac b y cy nLy rty fr1 lo1 mc1 ms1 (.ref a :: As) N M r1)
    (hA : At N M a (.inr (ci, fs))) (hst : st = As.reverse ++ .ref a :: st0) (hn : As.length = n) (hW : (st0.map fun v => v.category).sum ≤ 8) (hroom : fr1 + 1 ≤ fr ∧ 8 + (nLy + 11) + lo1 ≤ lo) (hcs : cs + mc1 ≤ mc ∧ sl + ms1 ≤ ms) (hN : r1.2.1 = N + mc1)
    (k : V l D ac b own cc nL rt i0 fr lo mc ms r (cs + mc1) (sl + ms1) q lv (r1.1.toList ++ st0) r1.2.1 r1.2.2) : V l D ac b own cc nL rt i0 fr lo mc ms r cs sl pc lv st N M := by
  subst hq
  refine s_run (av0 := .ref a :: As) hN (fun p e s m args below meth c H locs ls F hR hl2 => ?_) k
  obtain ⟨hx, hb, hml, hr, hown, hts, hlk, hK, hbs, hin⟩ := F
  refine va_runV (As := As.map (ev b)) (C := fR ci) ⟨hx, hb, hml, hown, hts⟩ hC ⟨callB_y hts hm hl hroom, hts _ hv.1, hts _ hv.2.1⟩ ⟨Pre.blind D ac b N M _, ?_, fun U hU hW => Pre.at (av := .ref a :: As) (y := y) hR hK hU hW⟩ rfl (by rw [List.length_map]; exact hn) hl2.1 ?_ (lv_room (by rw [ev_cats]; exact hW)) hd hcs
  · exact va_recv hK.1 hR.2 (clsL_at hv.2.2.2) (wsM_at hA)
  · subst hst
    simp [ev, List.map_append, List.map_reverse]
theorem s_callS {idx : Nat} {y : MethodName} {cy : ByteArray} {nLy : Nat} {rty : Option FieldType} {n fr1 lo1 mc1 ms1 : Nat} {As st0 : List Value} {r1 : RS} (hd : decode cc pc = .ok (.invokestatic idx, 3)) (hq : pc + 3 = q) (hl : Cond.methodLink own idx y ∈ tbG) (hm : MX y cy nLy rty n) (hv : MS y) (hC : Ct l D ac b y cy nLy rty fr1 lo1 mc1 ms1 As N M r1)
    (hst : st = As.reverse ++ st0) (hn : As.length = n) (hW : (st0.map fun v => v.category).sum ≤ 8) (hroom : fr1 + 1 ≤ fr ∧ 8 + (nLy + 11) + lo1 ≤ lo) (hcs : cs + mc1 ≤ mc ∧ sl + ms1 ≤ ms) (hN : r1.2.1 = N + mc1)
    (k : V l D ac b own cc nL rt i0 fr lo mc ms r (cs + mc1) (sl + ms1) q lv (r1.1.toList ++ st0) r1.2.1 r1.2.2) : V l D ac b own cc nL rt i0 fr lo mc ms r cs sl pc lv st N M := by
  subst hq
  refine s_run (av0 := As) hN (fun p e s m args below meth c H locs ls F hR hl2 => ?_) k
  obtain ⟨hx, hb, hml, hr, hown, hts, hlk, hK, hbs, hin⟩ := F
  refine va_runS (As := As.map (ev b)) ⟨hx, hb, hml, hown, hts⟩ hC ⟨callB_y hts hm hl hroom, hts _ hv⟩ ⟨Pre.blind D ac b N M _, fun U hU hW => Pre.at (y := y) hR hK hU hW⟩ rfl (by rw [List.length_map]; exact hn) hl2.1 ?_ (lv_room (by rw [ev_cats]; exact hW)) hd hcs
  subst hst
  simp [List.map_append, List.map_reverse]
theorem s_callN {idx : Nat} {y : MethodName} {cy : ByteArray} {nLy : Nat} {rty : Option FieldType} {n fr1 lo1 mc1 ms1 : Nat} {As st0 : List Value} {r1 : RS} (hd : decode cc pc = .ok (.invokestatic idx, 3)) (hq : pc + 3 = q) (hl : (own, idx, y) ∈ nests) (hm : MX y cy nLy rty n) (hv : MS y) (hC : Ct l D ac b y cy nLy rty fr1 lo1 mc1 ms1 As N M r1)
    (hst : st = As.reverse ++ st0) (hn : As.length = n) (hW : (st0.map fun v => v.category).sum ≤ 8) (hroom : fr1 + 1 ≤ fr ∧ 8 + (nLy + 11) + lo1 ≤ lo) (hcs : cs + mc1 ≤ mc ∧ sl + ms1 ≤ ms) (hN : r1.2.1 = N + mc1)
    (k : V l D ac b own cc nL rt i0 fr lo mc ms r (cs + mc1) (sl + ms1) q lv (r1.1.toList ++ st0) r1.2.1 r1.2.2) : V l D ac b own cc nL rt i0 fr lo mc ms r cs sl pc lv st N M := by
  subst hq
  refine s_run (av0 := As) hN (fun p e s m args below meth c H locs ls F hR hl2 => ?_) k
  obtain ⟨hx, hb, hml, hr, hown, hts, hlk, hK, hbs, hin⟩ := F
  refine va_runSN (As := As.map (ev b)) (host := "SpanStore") ⟨hx, hb, hml, hown, hts⟩ hC ⟨va_cnB n hts (tbG_good hm.1) rfl rfl rfl (hK.2.1 _ hl) (hts _ hm.2.1) hm.2.2 hroom, hts _ hv, trivial⟩ ⟨Pre.blind D ac b N M _, fun U hU hW => Pre.at (y := y) hR hK hU hW⟩ rfl (by rw [List.length_map]; exact hn) hl2.1 ?_ (lv_room (by rw [ev_cats]; exact hW)) hd hcs
  subst hst
  simp [List.map_append, List.map_reverse]
theorem s_callI {idx a : Nat} {y : MethodName} {cy : ByteArray} {nLy : Nat} {n fr1 lo1 mc1 ms1 : Nat} {As st0 : List Value} {r1 : RS} (hd : decode cc pc = .ok (.invokespecial idx, 3)) (hq : pc + 3 = q) (hl : Cond.methodLink own idx y ∈ tbG) (hm : MX y cy nLy none n) (hv : MI y) (hC : Ct l D ac b y cy nLy none fr1 lo1 mc1 ms1 (.ref a :: As) N M r1)
    (hst : st = As.reverse ++ .ref a :: st0) (hn : As.length = n) (hW : (st0.map fun v => v.category).sum ≤ 8) (hroom : fr1 + 1 ≤ fr ∧ 8 + (nLy + 11) + lo1 ≤ lo) (hcs : cs + mc1 ≤ mc ∧ sl + ms1 ≤ ms) (hN : r1.2.1 = N + mc1)
    (k : V l D ac b own cc nL rt i0 fr lo mc ms r (cs + mc1) (sl + ms1) q lv (r1.1.toList ++ st0) r1.2.1 r1.2.2) : V l D ac b own cc nL rt i0 fr lo mc ms r cs sl pc lv st N M := by
  subst hq
  refine s_run (av0 := .ref a :: As) hN (fun p e s m args below meth c H locs ls F hR hl2 => ?_) k
  obtain ⟨hx, hb, hml, hr, hown, hts, hlk, hK, hbs, hin⟩ := F
  refine va_runI (b := b + a) (As := As.map (ev b)) ⟨hx, hb, hml, hown, hts⟩ hC ⟨callB_y hts hm hl hroom, hv.2, hts _ hv.1⟩ ⟨Pre.blind D ac b N M _, fun U hU hW => Pre.at (av := .ref a :: As) (y := y) hR hK hU hW⟩ rfl (by rw [List.length_map]; exact hn) hl2.1 ?_ (lv_room (by rw [ev_cats]; exact hW)) hd hcs
  subst hst
  simp [ev, List.map_append, List.map_reverse]
theorem s_objInit {idx a : Nat} (hd : decode cc pc = .ok (.invokespecial idx, 3)) (hq : pc + 3 = q) (hl : Cond.methodLink own idx objectInit ∈ tbG) (hW : (st.map fun v => v.category).sum ≤ 8) (hf : 1 ≤ fr) (hlo : 20 ≤ lo) (k : V l D ac b own cc nL rt i0 fr lo mc ms r cs sl q lv st N M) : V l D ac b own cc nL rt i0 fr lo mc ms r cs sl pc lv (.ref a :: st) N M := by
  subst hq
  intro p e s m args below meth c H locs ls Qc F hR hS hl2 hQ
  refine W.objInit F.1 F.2.1 F.2.2.2.2.1 (F.2.2.2.2.2.1 _ hl) (F.2.2.2.2.2.1 _ oi_inst) (F.2.2.2.2.2.1 _ oi_code) rfl (by rw [F.2.2.1]; exact hl2.1) rfl hd hf ?_ (k p e s m args below meth c H locs ls Qc F hR hS hl2 hQ)
  have h1 : ((st.map (ev b)).map fun v => v.category).sum ≤ 8 := by rw [ev_cats]; exact hW
  have h2 := lv_room (m := m) (pc := pc) (ls := ls) (rest := ([] : List Value)) h1
  show _ + 12 ≤ lo
  exact Nat.le_trans (Nat.add_le_add_right h2 12) hlo
theorem lg_ev (av : List Value) : (lg_sl (av.map (ev b))).length = (lg_sl av).length := by
  induction av with
  | nil => rfl
  | cons a t ih =>
    unfold lg_sl at ih ⊢
    rw [List.map_cons, List.flatMap_cons, List.flatMap_cons, List.length_append, List.length_append, ih, ev_cat]
    split <;> rfl
theorem la_ev (av : List Value) (i : Nat) : lv_args i (av.map (ev b)) = (lv_args i av).map (el b) := by
  induction av generalizing i with
  | nil => rfl
  | cons a t ih =>
    rw [List.map_cons]
    unfold lv_args
    rw [ev_cat, ih]
    rfl
/-- a contract out of a walk -/
theorem Ct_of {y : MethodName} {cy : ByteArray} {nLy : Nat} {rty : Option FieldType} {av : List Value} {r1 : RS} (j0 : Bool) (hp : plainName y.cls = true) (hj : j0 = true → y.name = "<init>") (hle : (lg_sl av).length ≤ nLy)
    (k : V l D ac b y.cls cy nLy rty j0 fr lo mc ms r1 0 0 0 (lv_args 0 av) [] N M) : Ct l D ac b y cy nLy rty fr lo mc ms av N M r1 := by
  refine Met.ofW (cc := cy) (maxL := nLy) (ret := rty) hp rfl ?_
  intro p e s m args below meth c s₁ B hml hv
  obtain ⟨rfl, hR, hK⟩ := hv
  have hts := atoms_spec (ws := Cond.code y cy nLy rty :: tbG) B.pre
  have hown : s.vm.findClass y.cls = some m.cls := findClass_of_methodNamed B.named
  have hnm : meth.name = y.name := (name_of_methodNamed B.named B.method).1
  have hl := lv_entry (av.map (ev b)) (n := nLy) (by rw [lg_ev]; exact hle)
  rw [lg_entry_eq]
  rw [la_ev] at hl
  refine k p e s m _ below meth c s.heap [] _ _ ⟨B.exec, B.bytes, hml, B.returns, hown, fun w hw => hts w (List.mem_cons_of_mem _ hw), B.notSynchronized, hK, by rw [hR.1]; omega, fun h => hnm.trans (hj h)⟩ ⟨hR, by rw [hR.1]; rfl⟩ va_S.rf hl (fun t h1 h2 h3 => ⟨rfl, h1, h3⟩)


theorem mm_max : Cond.code Lib.Math.max.name Lib.Math.max.code 2 (some .int) ∈ tbG := wm 306 (by decide +kernel) (by decide +kernel)
theorem mm_min : Cond.code Lib.Math.min.name Lib.Math.min.code 2 (some .int) ∈ tbG := wm 267 (by decide +kernel) (by decide +kernel)
theorem mm_abs : Cond.code Lib.Math.abs.name Lib.Math.abs.code 1 (some .int) ∈ tbG := wm 293 (by decide +kernel) (by decide +kernel)
theorem mm_ini : Cond.initialized "java/lang/Math" ∈ tbG := wm 47 (by decide +kernel) (by decide +kernel)
theorem s_max {idx : Nat} {x y : Int32} (hd : decode cc pc = .ok (.invokestatic idx, 3)) (hq : pc + 3 = q) (hl : Cond.methodLink own idx y_A_max ∈ tbG) (hW : (st.map fun v => v.category).sum ≤ 8) (hf : 1 ≤ fr) (hlo : 21 ≤ lo) (hc : cs ≤ mc ∧ sl ≤ ms) (k : V l D ac b own cc nL rt i0 fr lo mc ms r cs sl q lv (.int (if x < y then y else x) :: st) N M) : V l D ac b own cc nL rt i0 fr lo mc ms r cs sl pc lv (.int y :: .int x :: st) N M := by
  subst hq
  intro p e s m args below meth c H locs ls Qc F hR hS hl2 hQ
  have h1 : ((st.map (ev b)).map fun v => v.category).sum ≤ 8 := by rw [ev_cats]; exact hW
  exact va_mmax F.1 F.2.1 (by rw [F.2.2.1]; exact hl2.1.symm) F.2.2.2.2.1 (F.2.2.2.2.2.1 _ hl) (F.2.2.2.2.2.1 _ ms_A_max) (F.2.2.2.2.2.1 _ mm_ini) (F.2.2.2.2.2.1 _ mm_max) hf (Nat.le_trans (Nat.add_le_add_right h1 13) hlo) hc.1 hc.2 hd (k p e s m args below meth c H locs ls Qc F hR hS hl2 hQ)
theorem s_min {idx : Nat} {x y : Int32} (hd : decode cc pc = .ok (.invokestatic idx, 3)) (hq : pc + 3 = q) (hl : Cond.methodLink own idx y_A_min ∈ tbG) (hW : (st.map fun v => v.category).sum ≤ 8) (hf : 1 ≤ fr) (hlo : 21 ≤ lo) (hc : cs ≤ mc ∧ sl ≤ ms) (k : V l D ac b own cc nL rt i0 fr lo mc ms r cs sl q lv (.int (if y < x then y else x) :: st) N M) : V l D ac b own cc nL rt i0 fr lo mc ms r cs sl pc lv (.int y :: .int x :: st) N M := by
  subst hq
  intro p e s m args below meth c H locs ls Qc F hR hS hl2 hQ
  have h1 : ((st.map (ev b)).map fun v => v.category).sum ≤ 8 := by rw [ev_cats]; exact hW
  exact va_mmin F.1 F.2.1 (by rw [F.2.2.1]; exact hl2.1.symm) F.2.2.2.2.1 (F.2.2.2.2.2.1 _ hl) (F.2.2.2.2.2.1 _ ms_A_min) (F.2.2.2.2.2.1 _ mm_ini) (F.2.2.2.2.2.1 _ mm_min) hf (Nat.le_trans (Nat.add_le_add_right h1 13) hlo) hc.1 hc.2 hd (k p e s m args below meth c H locs ls Qc F hR hS hl2 hQ)
theorem s_abs {idx : Nat} {x : Int32} (hd : decode cc pc = .ok (.invokestatic idx, 3)) (hq : pc + 3 = q) (hl : Cond.methodLink own idx y_A_abs ∈ tbG) (hW : (st.map fun v => v.category).sum ≤ 8) (hf : 1 ≤ fr) (hlo : 21 ≤ lo) (hc : cs ≤ mc ∧ sl ≤ ms) (k : V l D ac b own cc nL rt i0 fr lo mc ms r cs sl q lv (.int (if 0 ≤ x then x else 0 - x) :: st) N M) : V l D ac b own cc nL rt i0 fr lo mc ms r cs sl pc lv (.int x :: st) N M := by
  subst hq
  intro p e s m args below meth c H locs ls Qc F hR hS hl2 hQ
  have h1 : ((st.map (ev b)).map fun v => v.category).sum ≤ 8 := by rw [ev_cats]; exact hW
  exact va_mabs F.1 F.2.1 (by rw [F.2.2.1]; exact hl2.1.symm) F.2.2.2.2.1 (F.2.2.2.2.2.1 _ hl) (F.2.2.2.2.2.1 _ ms_A_abs) (F.2.2.2.2.2.1 _ mm_ini) (F.2.2.2.2.2.1 _ mm_abs) hf (Nat.le_trans (Nat.add_le_add_right h1 13) hlo) hc.1 hc.2 hd (k p e s m args below meth c H locs ls Qc F hR hS hl2 hQ)
theorem s_copy {idx a a0 n n0 sp dp z : Nat} {f g : Nat → Int32} (hd : decode cc pc = .ok (.invokestatic idx, 3)) (hq : pc + 3 = q) (hl : Cond.methodLink own idx arraycopyName ∈ tbG) (hA0 : At N M a0 (.inl (0, n0, .inl f))) (hA : At N M a (.inl (0, n, .inl g))) (hn0 : n0 < 2147483648) (hn : n < 2147483648) (h4 : sp + z ≤ n0) (h5 : dp + z ≤ n) (hW : (st.map fun v => v.category).sum ≤ 8) (hf : 1 ≤ fr) (hlo : 8 + (nativeFrameWords "java/lang/System" "arraycopy" 5 + 11) ≤ lo)
    (k : V l D ac b own cc nL rt i0 fr lo mc ms r cs sl q lv st N (um M a (.inl (0, n, .inl (va_cpy f g sp dp z))))) : V l D ac b own cc nL rt i0 fr lo mc ms r cs sl pc lv (.int (nI z) :: .int (nI dp) :: .ref a :: .int (nI sp) :: .ref a0 :: st) N M := by
  subst hq
  intro p e s m args below meth c H locs ls Qc F hR hS hl2 hQ
  have h1 : ((st.map (ev b)).map fun v => v.category).sum ≤ 8 := by rw [ev_cats]; exact hW
  have ez : (nI z).toNatClampNeg = z := nI_clamp (by omega)
  have es : (nI sp).toNatClampNeg = sp := nI_clamp (by omega)
  have ed : (nI dp).toNatClampNeg = dp := nI_clamp (by omega)
  refine va_copyi F.1 F.2.1 (by rw [F.2.2.1]; exact hl2.1.symm) F.2.2.2.2.1 (F.2.2.2.2.2.1 _ hl) (F.2.2.2.2.2.1 _ ac_nat) (F.2.2.2.2.2.1 _ ac_stat) (F.2.2.2.2.2.1 _ ac_ini) F.2.2.2.2.2.2.2.1.1 hR.1.2 wsM_D hS.here a0 a 0 0 (n0 := n0) (n1 := n) (f := f) (g := g) (ty := .int) (wsM_at hA0) (wsM_at hA) (tyL_at ac (by decide)) (tyL_at ac (by decide)) rfl (nI_pos (by omega)) (nI_pos (by omega)) (nI_pos (by omega)) (by rw [ez, es]; exact h4) (by rw [ez, ed]; exact h5) (fun _ _ => rfl) hf (Nat.le_trans (Nat.add_le_add_right h1 _) hlo) hd (fun H1 locs1 hP1 hD1 hS1 => W_sz (fun hz => ?_))
  rw [ez, es, ed] at hP1
  have e1 := wsM_set (b := b) (ac := ac) (M := M) (.inl (0, n, .inl (va_cpy f g sp dp z))) hA.1
  exact k p e s m args below meth c H1 locs1 ls Qc F (Rp.next hR hS1.1 hz (e1 ▸ hP1)) (hS.thn hS1) hl2 hQ
theorem wsM_len : (wsM b ac N M).length = N := by simp [wsM]
/-- where a new cell lies -/
theorem new_at {H1 : Heap} {q0 sz : Nat} {x : va_E} {s : State} {D : va_G} (hP : va_P D clsL (wsM b ac N M ++ [(q0, x)]) H1) (hD : va_D (fun q => b ≤ q) (wsM b ac N M ++ [(q0, x)])) (hz : H1.size ≤ b + N + 1) : q0 = b + N := by
  have hN : (wsM b ac N M ++ [(q0, x)])[N]? = some (q0, x) := by
    rw [List.getElem?_append_right (by rw [wsM_len]; exact Nat.le_refl _), wsM_len, Nat.sub_self]
    rfl
  have h1 : q0 < H1.size := (hP N _ hN).lt
  have h2 : b ≤ q0 := hD.2 N _ hN
  by_cases h3 : q0 < b + N
  · exfalso
    have hk : (wsM b ac N M ++ [(q0, x)])[q0 - b]? = some (b + (q0 - b), eE b ac (M (q0 - b))) := by
      rw [List.getElem?_append_left (by rw [wsM_len]; omega)]
      exact wsM_at ⟨by omega, rfl⟩
    have := hD.1 (q0 - b) N _ _ hk hN (by show b + (q0 - b) = q0; omega)
    omega
  · omega
theorem s_new {idx ci : Nat} {fs : List Value} (hd : decode cc pc = .ok (.new idx, 3)) (hq : pc + 3 = q) (hci : ci < 6) (hcl : Cond.classLink own idx (fR ci) ∈ tbG) (hit : Cond.instantiable (fR ci) (fN ci) ∈ tbG ∧ Cond.initialized (fR ci) ∈ tbG) (hfs : ∀ j, j < fN ci → defaultValue (fY ci j) = vp_V fs j) (hev : ∀ b, fs.map (ev b) = fs) (h1 : cs + 1 ≤ mc) (h2 : sl + fN ci ≤ ms)
    (k : V l D ac b own cc nL rt i0 fr lo mc ms r (cs + 1) (sl + fN ci) q lv (.ref N :: st) (N + 1) (um M N (.inr (ci, fs)))) : V l D ac b own cc nL rt i0 fr lo mc ms r cs sl pc lv st N M := by
  subst hq
  intro p e s m args below meth c H locs ls Qc F hR hS hl hQ
  refine va_new (ci := ci) (fs := fs) (C := fR ci) (T := fT ci) (N := fN ci) F.1 F.2.1 F.2.2.2.2.2.1 (inG hci) (fY ci) (fY_ok hci) F.2.2.2.2.1 (F.2.2.2.2.2.1 _ hcl) (F.2.2.2.2.2.1 _ hit.1) (F.2.2.2.2.2.1 _ hit.2) F.2.2.2.2.2.2.2.1.1 hR.1.2 wsM_D hS.here (fun q0 h => by have := hR.1.1; omega) (clsL_at hci) hfs h1 h2 hd (fun q0 H1 hP1 hD1 hS1 => W_sz (fun hz => ?_))
  have hq0 := new_at (sz := 0) (s := s) hP1 hD1 (by have := hR.2; omega)
  subst hq0
  have e1 := wsM_push (b := b) (ac := ac) (N := N) (M := M) (.inr (ci, fs))
  have e2 : eE b ac (.inr (ci, fs)) = .inr (ci, fs) := by show (Sum.inr (ci, fs.map (ev b)) : va_E) = _; rw [hev]
  rw [e2] at e1
  have hP2 := e1 ▸ hP1
  have hlast := (hP2 N _ (wsM_at (M := um M N (.inr (ci, fs))) (e := .inr (ci, fs)) ⟨Nat.lt_succ_self N, by simp [um]⟩)).lt
  exact k p e s m args below meth c H1 locs ls Qc F ⟨⟨by have := hR.2; simp only at hlast; omega, hP2⟩, by have := hR.2; omega⟩ (hS.thn hS1) hl hQ
theorem s_newa {atype : ArrayType} {t n : Nat} {x : Int32} (hd : decode cc pc = .ok (.newarray atype, 2)) (hq : pc + 2 = q) (ht : t < 2) (hty : newarray.typeOf atype = aty t) (hw : Cond.arrayClass (newarray.typeOf atype) ∈ tbG) (hx : x = nI n) (hn : n < 1000) (h1 : cs + 1 ≤ mc) (h2 : sl + n ≤ ms)
    (k : V l D ac b own cc nL rt i0 fr lo mc ms r (cs + 1) (sl + n) q lv (.ref N :: st) (N + 1) (um M N (.inl (t, n, .inl (fun _ => 0))))) : V l D ac b own cc nL rt i0 fr lo mc ms r cs sl pc lv (.int x :: st) N M := by
  subst hq
  subst hx
  intro p e s m args below meth c H locs ls Qc F hR hS hl hQ
  have ez : (nI n).toNatClampNeg = n := nI_clamp (by omega)
  refine va_newa (a0 := (n, .inl (fun _ => 0))) F.1 F.2.1 (F.2.2.2.2.2.1 _ hw) hty F.2.2.2.2.2.2.2.1.1 hR.1.2 wsM_D hS.here (fun q0 h => by have := hR.1.1; omega) (fun cA => ?_) (nI_pos (by omega)) ez ?_ h1 h2 hd (fun q0 cA H1 hK1 hP1 hD1 hS1 => W_sz (fun hz => ?_))
  · rcases (show t = 0 ∨ t = 1 by omega) with rfl | rfl <;> rfl
  · rcases (show t = 0 ∨ t = 1 by omega) with rfl | rfl
    · show n * 4 ≤ _; omega
    · show n * 1 ≤ _; omega
  have hq0 := new_at (sz := 0) (s := s) hP1 hD1 (by have := hR.2; omega)
  subst hq0
  have hcA : cA = ac t := by
    have g1 := (hK1.2 6 (cA, aty t) rfl).2
    have g2 := (hK1.2 t (ac t, aty t) (by rw [List.getElem?_append_left (by show t < 6; omega)]; exact tyL_at ac (by omega))).2
    rcases (show t = 0 ∨ t = 1 by omega) with rfl | rfl <;> exact Option.some.inj (g1.symm.trans g2)
  subst hcA
  have e1 := wsM_push (b := b) (ac := ac) (N := N) (M := M) (.inl (t, n, .inl (fun _ => 0)))
  have hP2 : va_P D clsL (wsM b ac (N + 1) (um M N (.inl (t, n, .inl (fun _ => 0))))) H1 := e1 ▸ hP1
  have hlast := (hP2 N _ (wsM_at (M := um M N (.inl (t, n, .inl (fun _ => 0)))) (e := .inl (t, n, .inl (fun _ => 0))) ⟨Nat.lt_succ_self N, by simp [um]⟩)).lt
  exact k p e s m args below meth c H1 locs ls Qc F ⟨⟨by have := hR.2; simp only at hlast; omega, hP2⟩, by have := hR.2; omega⟩ (hS.thn hS1) hl hQ
theorem s_anew {idx t ci n : Nat} {x : Int32} (hd : decode cc pc = .ok (.anewarray idx, 3)) (hq : pc + 3 = q) (ht : t < 6) (hty : aty t = .object (fR ci)) (hcl : Cond.classLink own idx (fR ci) ∈ tbG) (hao : ci < 4) (hx : x = nI n) (hn : n < 1000) (h1 : cs + 1 ≤ mc) (h2 : sl + n ≤ ms)
    (k : V l D ac b own cc nL rt i0 fr lo mc ms r (cs + 1) (sl + n) q lv (.ref N :: st) (N + 1) (um M N (.inl (t, n, .inr (fun _ => none))))) : V l D ac b own cc nL rt i0 fr lo mc ms r cs sl pc lv (.int x :: st) N M := by
  subst hq
  subst hx
  intro p e s m args below meth c H locs ls Qc F hR hS hl hQ
  have ez : (nI n).toNatClampNeg = n := nI_clamp (by omega)
  have hov : va_AO (fR ci) s := by
    have := F.2.2.2.2.2.2.2.1.2
    rcases (show ci = 0 ∨ ci = 1 ∨ ci = 2 ∨ ci = 3 by omega) with rfl | rfl | rfl | rfl
    · exact this.2.2.2.1
    · exact this.2.2.2.2
    · exact this.2.2.1
    · exact this.2.1
  refine va_newq (C := fR ci) F.1 F.2.1 F.2.2.2.2.1 (F.2.2.2.2.2.1 _ hcl) hov F.2.2.2.2.2.2.2.1.1 hR.1.2 wsM_D hS.here (fun q0 h => by have := hR.1.1; omega) (nI_pos (by omega)) ez (by omega) h1 h2 hd (fun q0 cA H1 hK1 hP1 hD1 hS1 => W_sz (fun hz => ?_))
  have hq0 := new_at (sz := 0) (s := s) hP1 hD1 (by have := hR.2; omega)
  subst hq0
  have hcA : cA = ac t := by
    have g1 := (hK1.2 6 (cA, .object (fR ci)) rfl).2
    have g2 := (hK1.2 t (ac t, aty t) (by rw [List.getElem?_append_left (by show t < 6; omega)]; exact tyL_at ac (by omega))).2
    rw [hty] at g2
    obtain ⟨_, _, _, _, _, g3⟩ := g1
    obtain ⟨_, _, _, _, _, g4⟩ := g2
    exact Option.some.inj (g3.symm.trans g4)
  subst hcA
  have e1 := wsM_push (b := b) (ac := ac) (N := N) (M := M) (.inl (t, n, .inr (fun _ => none)))
  have hP2 : va_P D clsL (wsM b ac (N + 1) (um M N (.inl (t, n, .inr (fun _ => none))))) H1 := e1 ▸ hP1
  have hlast := (hP2 N _ (wsM_at (M := um M N (.inl (t, n, .inr (fun _ => none)))) (e := .inl (t, n, .inr (fun _ => none))) ⟨Nat.lt_succ_self N, by simp [um]⟩)).lt
  exact k p e s m args below meth c H1 locs ls Qc F ⟨⟨by have := hR.2; simp only at hlast; omega, hP2⟩, by have := hR.2; omega⟩ (hS.thn hS1) hl hQ
theorem s_aast {a t n j k0 ci : Nat} {f : Nat → Option Nat} {i : Int32} {vs : List Value} (hd : decode cc pc = .ok (.aastore, 1)) (hq : pc + 1 = q) (hA : At N M a (.inl (t, n, .inr f))) (ht : t < 6) (hty : aty t = .object (fR ci)) (hV : At N M k0 (.inr (ci, vs))) (hci : ci < 6) (hi : i = nI j) (hj : j < n) (hn : n < 2147483648) (k : V l D ac b own cc nL rt i0 fr lo mc ms r cs sl q lv st N (um M a (.inl (t, n, .inr (va_up f j (some k0)))))) : V l D ac b own cc nL rt i0 fr lo mc ms r cs sl pc lv (.ref k0 :: .int i :: .ref a :: st) N M := by
  subst hq
  subst hi
  intro p e s m args below meth c H locs ls Qc F hR hS hl hQ
  refine va_astq (r := (fR ci, fT ci, fN ci)) F.1 F.2.1 F.2.2.2.2.2.2.2.1.1 hR.1.2 wsM_D hS.here a t k0 ci (n := n) (f := fun i => (f i).map (fun k => b + k)) (wsM_at hA) ((tyL_at ac ht).trans (by rw [hty])) (wsM_at hV) (clsL_at hci) (vp_in_nI hj hn) hd (fun H1 locs1 hP1 hD1 hS1 => W_sz (fun hz => ?_))
  rw [nI_clamp (by omega)] at hP1
  have e1 := wsM_set (b := b) (ac := ac) (M := M) (.inl (t, n, .inr (va_up f j (some k0)))) hA.1
  have e2 : eE b ac (.inl (t, n, .inr (va_up f j (some k0)))) = .inl (ac t, n, .inr (.inr (.inr (.inr (va_up (fun i => (f i).map (fun k => b + k)) j (some (b + k0))))))) := by
    show (Sum.inl (ac t, n, .inr (.inr (.inr (.inr (fun i => (va_up f j (some k0) i).map (fun k => b + k)))))) : va_E) = _
    have : (fun i => (va_up f j (some k0) i).map (fun k => b + k)) = va_up (fun i => (f i).map (fun k => b + k)) j (some (b + k0)) := by
      funext i
      by_cases h : i = j
      · subst h; simp [va_up]
      · simp [va_up, h]
    rw [this]
  rw [e2] at e1
  exact k p e s m args below meth c H1 locs1 ls Qc F (Rp.next hR hS1.1 hz (e1 ▸ hP1)) (hS.thn hS1) hl hQ
end PM
end
section
/-! THE STORE AS NUMBERS: behind the constructors the cells' shape is fixed (sk), all that changes are the ints X cell slot -/
abbrev RAM : Type := Nat → Nat → Int32
abbrev SKE : Type := (Nat × Nat × Option (Nat → Option Nat)) ⊕ (Nat × List (Option Nat))
def skT (o : Nat) (d : Nat) : SKE :=
  if d = 0 then .inr (3, [some (o + 1), some (o + 2), none, none])
  else if d = 1 then .inl (4, 8, some (fun i => some (o + 3 + 6 * i)))
  else if d = 2 then .inl (5, 4, some (fun i => some (o + 51 + i)))
  else if d < 51 then
    (if (d - 3) % 6 = 0 then .inr (0, [some (o + d + 1), some (o + d + 2), some (o + d + 3), some (o + d + 4), some (o + d + 5), none, none, none, none, none, none, none, none, none])
     else if (d - 3) % 6 = 4 then .inl (1, 12, none)
     else if (d - 3) % 6 = 5 then .inl (0, 4, none)
     else .inl (0, 12, none))
  else .inr (1, [none, none, none])
def mLen : Nat → Nat := fun i => match i with
  | 0 => 16 | 1 => 192 | 2 => 192 | 3 => 192 | 4 => 192 | 5 => 192 | 6 => 192 | 7 => 16 | 8 => 16 | 9 => 64 | 10 => 16 | 11 => 2 | 12 => 2 | 13 => 8 | 14 => 8 | 15 => 8
  | 16 => 4 | 17 => 4 | 18 => 4 | 19 => 160 | _ => 40
def mTy : Nat → Nat := fun i => match i with
  | 4 => 1 | 5 => 1 | 10 => 1 | 11 => 1 | 16 => 1 | _ => 0
def sk (i : Nat) : SKE :=
  if i = 0 then .inr (4, [some 1, some 2, some 3, none, none])
  else if i = 1 then .inl (2, 2, some (fun i => some (4 + 55 * i)))
  else if i = 2 then .inl (3, 4, some (fun i => some (114 + 2 * i)))
  else if i = 3 then .inl (0, 100, none)
  else if i < 59 then skT 4 (i - 4)
  else if i < 114 then skT 59 (i - 59)
  else if i < 122 then (if i % 2 = 0 then .inr (2, [some (i + 1), none, none, none]) else .inl (0, 40, none))
  else if i = 122 then .inr (5, [some 123, some 124, some 125, some 126, some 127, some 128, some 129, some 130, some 131, some 132, some 133, some 134, some 135, some 136, some 137, some 138, none, some 139, some 140, some 141, some 142, some 143, none])
  else if i < 144 then .inl (mTy (i - 123), mLen (i - 123), none)
  else .inl (9, 0, none)
def mkf (g : Nat → Int32) : Nat → List (Option Nat) → List Value
  | _, [] => []
  | i, none :: t => .int (g i) :: mkf g (i + 1) t
  | i, some a :: t => .ref a :: mkf g (i + 1) t
def mkE (X : RAM) (i : Nat) (s : SKE) : PE := match s with
  | .inl (t, n, none) => .inl (t, n, .inl (X i))
  | .inl (t, n, some f) => .inl (t, n, .inr f)
  | .inr (ci, ss) => .inr (ci, mkf (X i) 0 ss)
def mk (X : RAM) : Mem := fun i => mkE X i (sk i)
def up2 (X : RAM) (o k : Nat) (v : Int32) : RAM := fun i => if i = o then upd (X o) k v else X i
theorem mkf_int (g : Nat → Int32) (ss : List (Option Nat)) (j k : Nat) (h : ss[k]? = some none) : (mkf g j ss)[k]? = some (.int (g (j + k))) := by
  induction ss generalizing j k with
  | nil => simp at h
  | cons a t ih =>
    cases k with
    | zero =>
      rw [List.getElem?_cons_zero] at h
      cases h
      rfl
    | succ k =>
      rw [List.getElem?_cons_succ] at h
      have := ih (j + 1) k h
      rw [show j + 1 + k = j + (k + 1) by omega] at this
      cases a <;> exact this
theorem mkf_ref (g : Nat → Int32) (ss : List (Option Nat)) (j k a : Nat) (h : ss[k]? = some (some a)) : (mkf g j ss)[k]? = some (.ref a) := by
  induction ss generalizing j k with
  | nil => simp at h
  | cons x t ih =>
    cases k with
    | zero =>
      rw [List.getElem?_cons_zero] at h
      cases h
      rfl
    | succ k =>
      rw [List.getElem?_cons_succ] at h
      have := ih (j + 1) k h
      cases x <;> exact this
theorem mkf_len (g : Nat → Int32) (ss : List (Option Nat)) (j : Nat) : (mkf g j ss).length = ss.length := by
  induction ss generalizing j with
  | nil => rfl
  | cons x t ih => cases x <;> simp [mkf, ih]
theorem mkf_same {g g' : Nat → Int32} (ss : List (Option Nat)) (j : Nat) (h : ∀ i, j ≤ i → g i = g' i) : mkf g j ss = mkf g' j ss := by
  induction ss generalizing j with
  | nil => rfl
  | cons x t ih =>
    have := ih (j + 1) (fun i hi => h i (by omega))
    cases x <;> simp [mkf, this, h j (Nat.le_refl j)]
theorem mkf_set (g : Nat → Int32) (ss : List (Option Nat)) (j k : Nat) (v : Int32) (h : ss[k]? = some none) : (mkf g j ss).set k (.int v) = mkf (upd g (j + k) v) j ss := by
  induction ss generalizing j k with
  | nil => simp at h
  | cons a t ih =>
    cases k with
    | zero =>
      rw [List.getElem?_cons_zero] at h
      cases h
      have : mkf g (j + 1) t = mkf (upd g (j + 0) v) (j + 1) t := mkf_same t (j + 1) (fun i hi => by simp [upd]; omega)
      simp [mkf, upd] at this ⊢
      exact this
    | succ k =>
      rw [List.getElem?_cons_succ] at h
      have h2 := ih (j + 1) k h
      rw [show j + 1 + k = j + (k + 1) by omega] at h2
      cases a with
      | none =>
        simp only [mkf, List.set_cons_succ, h2]
        congr 1
        simp [upd]
      | some a => simp only [mkf, List.set_cons_succ, h2]
theorem sk_lt {i : Nat} {t n : Nat} {f : Option (Nat → Option Nat)} (h : sk i = .inl (t, n, f)) (ht : t < 6) : i < 144 := by
  by_cases hi : i < 144
  · exact hi
  · unfold sk at h
    simp only [show ¬ i = 0 by omega, show ¬ i = 1 by omega, show ¬ i = 2 by omega, show ¬ i = 3 by omega, show ¬ i < 59 by omega, show ¬ i < 114 by omega, show ¬ i < 122 by omega, show ¬ i = 122 by omega, hi, if_false] at h
    cases h
    omega
theorem sk_ltr {i ci : Nat} {ss : List (Option Nat)} (h : sk i = .inr (ci, ss)) : i < 144 := by
  by_cases hi : i < 144
  · exact hi
  · unfold sk at h
    simp only [show ¬ i = 0 by omega, show ¬ i = 1 by omega, show ¬ i = 2 by omega, show ¬ i = 3 by omega, show ¬ i < 59 by omega, show ¬ i < 114 by omega, show ¬ i < 122 by omega, show ¬ i = 122 by omega, hi, if_false] at h
    cases h
theorem mk_obj {X : RAM} {o ci : Nat} {ss : List (Option Nat)} (h : sk o = .inr (ci, ss)) : At 144 (mk X) o (.inr (ci, mkf (X o) 0 ss)) := ⟨sk_ltr h, by unfold mk; rw [h]; rfl⟩
theorem mk_arr {X : RAM} {a t n : Nat} (h : sk a = .inl (t, n, none)) (ht : t < 6) : At 144 (mk X) a (.inl (t, n, .inl (X a))) := ⟨sk_lt h ht, by unfold mk; rw [h]; rfl⟩
theorem mk_ref {X : RAM} {a t n : Nat} {f : Nat → Option Nat} (h : sk a = .inl (t, n, some f)) (ht : t < 6) : At 144 (mk X) a (.inl (t, n, .inr f)) := ⟨sk_lt h ht, by unfold mk; rw [h]; rfl⟩
theorem mk_puti {X : RAM} {o ci k : Nat} {ss : List (Option Nat)} {v : Int32} (h : sk o = .inr (ci, ss)) (hk : ss[k]? = some none) : um (mk X) o (.inr (ci, (mkf (X o) 0 ss).set k (.int v))) = mk (up2 X o k v) := by
  funext i
  by_cases hi : i = o
  · subst hi
    simp only [um, if_true, mk, h, mkE, up2]
    rw [mkf_set _ _ _ _ _ hk, Nat.zero_add]
  · have : up2 X o k v i = X i := by simp [up2, hi]
    simp only [um, hi, if_false, mk, mkE, this]
theorem mk_puta {X : RAM} {a t n k : Nat} {v : Int32} (h : sk a = .inl (t, n, none)) : um (mk X) a (.inl (t, n, .inl (upd (X a) k v))) = mk (up2 X a k v) := by
  funext i
  by_cases hi : i = a
  · subst hi
    simp only [um, if_true, mk, h, mkE, up2]
  · have : up2 X a k v i = X i := by simp [up2, hi]
    simp only [um, hi, if_false, mk, mkE, this]
def upA (X : RAM) (a : Nat) (f : Nat → Int32) : RAM := fun i => if i = a then f else X i
theorem mk_putA {X : RAM} {a t n : Nat} {f : Nat → Int32} (h : sk a = .inl (t, n, none)) : um (mk X) a (.inl (t, n, .inl f)) = mk (upA X a f) := by
  funext i
  by_cases hi : i = a
  · subst hi
    simp only [um, if_true, mk, h, mkE, upA]
  · have : upA X a f i = X i := by simp [upA, hi]
    simp only [um, hi, if_false, mk, mkE, this]
section GM
variable {l : Launch} {D : va_G} {ac : Nat → ClassId} {b : Nat} {own : String} {cc : ByteArray} {nL : Nat} {rt : Option FieldType} {i0 : Bool} {fr lo mc ms : Nat} {r : RS} {cs sl pc q : Nat} {lv : List (Nat × Value)} {st : List Value} {X : RAM}
theorem g_geti {o ci kf i : Nat} {ss : List (Option Nat)} (hd : decode cc pc = .ok (.getfield i, 3)) (hq : pc + 3 = q) (hF : FL own i ci kf) (hS : sk o = .inr (ci, ss)) (hk : ss[kf]? = some none) (k : V l D ac b own cc nL rt i0 fr lo mc ms r cs sl q lv (.int (X o kf) :: st) 144 (mk X)) : V l D ac b own cc nL rt i0 fr lo mc ms r cs sl pc lv (.ref o :: st) 144 (mk X) :=
  s_get hd hq hF (mk_obj hS) (by rw [mkf_int _ _ _ _ hk, Nat.zero_add]) k
theorem g_getr {o ci kf i a : Nat} {ss : List (Option Nat)} (hd : decode cc pc = .ok (.getfield i, 3)) (hq : pc + 3 = q) (hF : FL own i ci kf) (hS : sk o = .inr (ci, ss)) (hk : ss[kf]? = some (some a)) (k : V l D ac b own cc nL rt i0 fr lo mc ms r cs sl q lv (.ref a :: st) 144 (mk X)) : V l D ac b own cc nL rt i0 fr lo mc ms r cs sl pc lv (.ref o :: st) 144 (mk X) :=
  s_get hd hq hF (mk_obj hS) (mkf_ref _ _ _ _ _ hk) k
theorem okV_int (v : Int32) : okV .int (.int v) := fun _ => ⟨rfl, rfl⟩
theorem okV_0 : okV .boolean (.int 0) := fun _ => ⟨rfl, rfl⟩
theorem okV_1 : okV .boolean (.int 1) := fun _ => ⟨rfl, rfl⟩
theorem g_puti {o ci kf i : Nat} {ss : List (Option Nat)} {v : Int32} (hd : decode cc pc = .ok (.putfield i, 3)) (hq : pc + 3 = q) (hF : FL own i ci kf) (hfin : (fT ci kf).2.2.2 = false) (hok : okV (fY ci kf) (.int v)) (hS : sk o = .inr (ci, ss)) (hk : ss[kf]? = some none) (k : V l D ac b own cc nL rt i0 fr lo mc ms r cs sl q lv st 144 (mk (up2 X o kf v))) : V l D ac b own cc nL rt i0 fr lo mc ms r cs sl pc lv (.int v :: .ref o :: st) 144 (mk X) :=
  s_put hd hq hF (mk_obj hS) hfin hok (by rw [mkf_len]; exact (List.getElem?_eq_some_iff.mp hk).1) (by rw [mk_puti hS hk]; exact k)
theorem g_iald {a n j : Nat} {i : Int32} (hd : decode cc pc = .ok (.iaload, 1)) (hq : pc + 1 = q) (hS : sk a = .inl (0, n, none)) (hn : n < 2147483648) (hi : i = nI j) (hj : j < n) (k : V l D ac b own cc nL rt i0 fr lo mc ms r cs sl q lv (.int (X a j) :: st) 144 (mk X)) : V l D ac b own cc nL rt i0 fr lo mc ms r cs sl pc lv (.int i :: .ref a :: st) 144 (mk X) :=
  s_iald hd hq (mk_arr hS (by decide)) hi hj hn k
theorem g_zald {a n j : Nat} {i : Int32} (hd : decode cc pc = .ok (.baload, 1)) (hq : pc + 1 = q) (hS : sk a = .inl (1, n, none)) (hn : n < 2147483648) (hi : i = nI j) (hj : j < n) (k : V l D ac b own cc nL rt i0 fr lo mc ms r cs sl q lv (.int (X a j) :: st) 144 (mk X)) : V l D ac b own cc nL rt i0 fr lo mc ms r cs sl pc lv (.int i :: .ref a :: st) 144 (mk X) :=
  s_zald hd hq (mk_arr hS (by decide)) hi hj hn k
theorem g_aald {a t n j k0 : Nat} {f : Nat → Option Nat} {i : Int32} {C : String} (hd : decode cc pc = .ok (.aaload, 1)) (hq : pc + 1 = q) (hS : sk a = .inl (t, n, some f)) (ht : t < 6) (hty : aty t = .object C) (hn : n < 2147483648) (hi : i = nI j) (hj : j < n) (hf : f j = some k0) (k : V l D ac b own cc nL rt i0 fr lo mc ms r cs sl q lv (.ref k0 :: st) 144 (mk X)) : V l D ac b own cc nL rt i0 fr lo mc ms r cs sl pc lv (.int i :: .ref a :: st) 144 (mk X) :=
  s_aald hd hq (mk_ref hS ht) ht hty hi hj hn hf k
theorem g_iast {a n j : Nat} {i x : Int32} (hd : decode cc pc = .ok (.iastore, 1)) (hq : pc + 1 = q) (hS : sk a = .inl (0, n, none)) (hn : n < 2147483648) (hi : i = nI j) (hj : j < n) (k : V l D ac b own cc nL rt i0 fr lo mc ms r cs sl q lv st 144 (mk (up2 X a j x))) : V l D ac b own cc nL rt i0 fr lo mc ms r cs sl pc lv (.int x :: .int i :: .ref a :: st) 144 (mk X) :=
  s_iast hd hq (mk_arr hS (by decide)) hi hj hn (by rw [mk_puta hS]; exact k)
theorem g_zast {a n j : Nat} {i x : Int32} (hd : decode cc pc = .ok (.bastore, 1)) (hq : pc + 1 = q) (hS : sk a = .inl (1, n, none)) (hn : n < 2147483648) (hi : i = nI j) (hj : j < n) (hx : vp_nar .boolean x = x) (k : V l D ac b own cc nL rt i0 fr lo mc ms r cs sl q lv st 144 (mk (up2 X a j x))) : V l D ac b own cc nL rt i0 fr lo mc ms r cs sl pc lv (.int x :: .int i :: .ref a :: st) 144 (mk X) :=
  s_zast hd hq (mk_arr hS (by decide)) hi hj hn hx (by rw [mk_puta hS]; exact k)
theorem g_alen {a t n : Nat} (hd : decode cc pc = .ok (.arraylength, 1)) (hq : pc + 1 = q) (hS : sk a = .inl (t, n, none)) (ht : t < 6) (k : V l D ac b own cc nL rt i0 fr lo mc ms r cs sl q lv (.int (nI n) :: st) 144 (mk X)) : V l D ac b own cc nL rt i0 fr lo mc ms r cs sl pc lv (.ref a :: st) 144 (mk X) :=
  s_alen hd hq (mk_arr hS ht) ht k
theorem g_copy {idx a a0 n n0 sp dp z : Nat} (hd : decode cc pc = .ok (.invokestatic idx, 3)) (hq : pc + 3 = q) (hl : Cond.methodLink own idx arraycopyName ∈ tbG) (hS0 : sk a0 = .inl (0, n0, none)) (hS : sk a = .inl (0, n, none)) (hn0 : n0 < 2147483648) (hn : n < 2147483648) (h4 : sp + z ≤ n0) (h5 : dp + z ≤ n) (hW : (st.map fun v => v.category).sum ≤ 8) (hf : 1 ≤ fr) (hlo : 8 + (nativeFrameWords "java/lang/System" "arraycopy" 5 + 11) ≤ lo) (k : V l D ac b own cc nL rt i0 fr lo mc ms r cs sl q lv st 144 (mk (upA X a (va_cpy (X a0) (X a) sp dp z)))) : V l D ac b own cc nL rt i0 fr lo mc ms r cs sl pc lv (.int (nI z) :: .int (nI dp) :: .ref a :: .int (nI sp) :: .ref a0 :: st) 144 (mk X) :=
  s_copy hd hq hl (mk_arr hS0 (by decide)) (mk_arr hS (by decide)) hn0 hn h4 h5 hW hf hlo (by rw [mk_putA hS]; exact k)
end GM
/-- a contract on the store: with these arguments, from X, the answer and the new X -/
def CG (l : Launch) (D : va_G) (ac : Nat → ClassId) (b : Nat) (y : MethodName) (cc : ByteArray) (nL : Nat) (rt : Option FieldType) (fr lo : Nat) (av : List Value) (X : RAM) (r : Option Value) (X' : RAM) : Prop := Ct l D ac b y cc nL rt fr lo 0 0 av 144 (mk X) (r, 144, mk X')
section GC
variable {l : Launch} {D : va_G} {ac : Nat → ClassId} {b : Nat} {own : String} {cc : ByteArray} {nL : Nat} {rt : Option FieldType} {i0 : Bool} {fr lo : Nat} {r : RS} {pc q : Nat} {lv : List (Nat × Value)} {st : List Value} {X : RAM}
theorem g_callV {idx a ci : Nat} {y : MethodName} {cy : ByteArray} {nLy : Nat} {rty : Option FieldType} {n fr1 lo1 : Nat} {As st0 : List Value} {ss : List (Option Nat)} {r1 : Option Value} {X1 : RAM} (hd : decode cc pc = .ok (.invokevirtual idx, 3)) (hq : pc + 3 = q) (hl : Cond.methodLink own idx y ∈ tbG) (hm : MX y cy nLy rty n) (hv : MV y ci) (hC : CG l D ac b y cy nLy rty fr1 lo1 (.ref a :: As) X r1 X1)
    (hS : sk a = .inr (ci, ss)) (hst : st = As.reverse ++ .ref a :: st0) (hn : As.length = n) (hW : (st0.map fun v => v.category).sum ≤ 8) (hroom : fr1 + 1 ≤ fr ∧ 8 + (nLy + 11) + lo1 ≤ lo)
    (k : V l D ac b own cc nL rt i0 fr lo 0 0 r 0 0 q lv (r1.toList ++ st0) 144 (mk X1)) : V l D ac b own cc nL rt i0 fr lo 0 0 r 0 0 pc lv st 144 (mk X) :=
  s_callV hd hq hl hm hv hC (mk_obj hS) hst hn hW hroom ⟨Nat.le_refl _, Nat.le_refl _⟩ rfl k
theorem g_callS {idx : Nat} {y : MethodName} {cy : ByteArray} {nLy : Nat} {rty : Option FieldType} {n fr1 lo1 : Nat} {As st0 : List Value} {r1 : Option Value} {X1 : RAM} (hd : decode cc pc = .ok (.invokestatic idx, 3)) (hq : pc + 3 = q) (hl : Cond.methodLink own idx y ∈ tbG) (hm : MX y cy nLy rty n) (hv : MS y) (hC : CG l D ac b y cy nLy rty fr1 lo1 As X r1 X1)
    (hst : st = As.reverse ++ st0) (hn : As.length = n) (hW : (st0.map fun v => v.category).sum ≤ 8) (hroom : fr1 + 1 ≤ fr ∧ 8 + (nLy + 11) + lo1 ≤ lo)
    (k : V l D ac b own cc nL rt i0 fr lo 0 0 r 0 0 q lv (r1.toList ++ st0) 144 (mk X1)) : V l D ac b own cc nL rt i0 fr lo 0 0 r 0 0 pc lv st 144 (mk X) :=
  s_callS hd hq hl hm hv hC hst hn hW hroom ⟨Nat.le_refl _, Nat.le_refl _⟩ rfl k
theorem g_callN {idx : Nat} {y : MethodName} {cy : ByteArray} {nLy : Nat} {rty : Option FieldType} {n fr1 lo1 : Nat} {As st0 : List Value} {r1 : Option Value} {X1 : RAM} (hd : decode cc pc = .ok (.invokestatic idx, 3)) (hq : pc + 3 = q) (hl : (own, idx, y) ∈ nests) (hm : MX y cy nLy rty n) (hv : MS y) (hC : CG l D ac b y cy nLy rty fr1 lo1 As X r1 X1)
    (hst : st = As.reverse ++ st0) (hn : As.length = n) (hW : (st0.map fun v => v.category).sum ≤ 8) (hroom : fr1 + 1 ≤ fr ∧ 8 + (nLy + 11) + lo1 ≤ lo)
    (k : V l D ac b own cc nL rt i0 fr lo 0 0 r 0 0 q lv (r1.toList ++ st0) 144 (mk X1)) : V l D ac b own cc nL rt i0 fr lo 0 0 r 0 0 pc lv st 144 (mk X) :=
  s_callN hd hq hl hm hv hC hst hn hW hroom ⟨Nat.le_refl _, Nat.le_refl _⟩ rfl k
theorem g_iret {v : Int32} {ty : FieldType} {X1 : RAM} (hd : decode cc pc = .ok (.ireturn, 1)) (hrt : rt = some ty) (hn : narrow ty (.int v) = .int v) {v1 : Int32} (hv : v = v1) (hX : X = X1) : V l D ac b own cc nL rt i0 fr lo 0 0 (some (.int v1), 144, mk X1) 0 0 pc lv [.int v] 144 (mk X) := by
  subst hv; subst hX
  exact s_iret hd hrt hn (Nat.le_refl _) (Nat.le_refl _) rfl
theorem g_lret {v v1 : Int64} {X1 : RAM} (hd : decode cc pc = .ok (.lreturn, 1)) (hrt : rt = some .long) (hv : v = v1) (hX : X = X1) : V l D ac b own cc nL rt i0 fr lo 0 0 (some (.long v1), 144, mk X1) 0 0 pc lv [.long v] 144 (mk X) := by
  subst hv; subst hX
  exact s_lret hd hrt (Nat.le_refl _) (Nat.le_refl _) rfl
theorem g_aret {v v1 : Value} {C : String} {X1 : RAM} (hd : decode cc pc = .ok (.areturn, 1)) (hrt : rt = some (.object C)) (hr : v = .null ∨ ∃ a, v = .ref a) (hv : v = v1) (hX : X = X1) : V l D ac b own cc nL rt i0 fr lo 0 0 (some v1, 144, mk X1) 0 0 pc lv [v] 144 (mk X) := by
  subst hv; subst hX
  exact s_aret hd hrt hr (Nat.le_refl _) (Nat.le_refl _) rfl
theorem g_ret {X1 : RAM} (hd : decode cc pc = .ok (.return_, 1)) (hrt : rt = none) (hX : X = X1) : V l D ac b own cc nL rt i0 fr lo 0 0 (none, 144, mk X1) 0 0 pc lv [] 144 (mk X) := by
  subst hX
  exact s_ret hd hrt (Nat.le_refl _) (Nat.le_refl _) rfl
end GC
/-! the shapes -/
def isB (o : Nat) : Prop := sk o = .inr (0, [some (o + 1), some (o + 2), some (o + 3), some (o + 4), some (o + 5), none, none, none, none, none, none, none, none, none]) ∧ sk (o + 1) = .inl (0, 12, none) ∧ sk (o + 2) = .inl (0, 12, none) ∧ sk (o + 3) = .inl (0, 12, none) ∧ sk (o + 4) = .inl (1, 12, none) ∧ sk (o + 5) = .inl (0, 4, none)
def isK (o : Nat) : Prop := sk o = .inr (1, [none, none, none])
def isS (o : Nat) : Prop := sk o = .inr (2, [some (o + 1), none, none, none]) ∧ sk (o + 1) = .inl (0, 40, none)
def isT (o : Nat) : Prop := sk o = .inr (3, [some (o + 1), some (o + 2), none, none]) ∧ sk (o + 1) = .inl (4, 8, some (fun i => some (o + 3 + 6 * i))) ∧ sk (o + 2) = .inl (5, 4, some (fun i => some (o + 51 + i))) ∧ (∀ j, j < 8 → isB (o + 3 + 6 * j)) ∧ ∀ k, k < 4 → isK (o + 51 + k)
def isC : Prop := sk 0 = .inr (4, [some 1, some 2, some 3, none, none]) ∧ sk 1 = .inl (2, 2, some (fun i => some (4 + 55 * i))) ∧ sk 2 = .inl (3, 4, some (fun i => some (114 + 2 * i))) ∧ sk 3 = .inl (0, 100, none) ∧ (∀ t, t < 2 → isT (4 + 55 * t)) ∧ ∀ k, k < 4 → isS (114 + 2 * k)
set_option maxRecDepth 10000 in
theorem hC : isC := by
  refine ⟨rfl, rfl, rfl, rfl, fun t ht => ?_, fun k hk => ?_⟩
  · rcases (show t = 0 ∨ t = 1 by omega) with rfl | rfl
    · refine ⟨rfl, rfl, rfl, fun j hj => ?_, fun k hk => ?_⟩
      · rcases (show j = 0 ∨ j = 1 ∨ j = 2 ∨ j = 3 ∨ j = 4 ∨ j = 5 ∨ j = 6 ∨ j = 7 by omega) with rfl | rfl | rfl | rfl | rfl | rfl | rfl | rfl <;> exact ⟨rfl, rfl, rfl, rfl, rfl, rfl⟩
      · rcases (show k = 0 ∨ k = 1 ∨ k = 2 ∨ k = 3 by omega) with rfl | rfl | rfl | rfl <;> exact rfl
    · refine ⟨rfl, rfl, rfl, fun j hj => ?_, fun k hk => ?_⟩
      · rcases (show j = 0 ∨ j = 1 ∨ j = 2 ∨ j = 3 ∨ j = 4 ∨ j = 5 ∨ j = 6 ∨ j = 7 by omega) with rfl | rfl | rfl | rfl | rfl | rfl | rfl | rfl <;> exact ⟨rfl, rfl, rfl, rfl, rfl, rfl⟩
      · rcases (show k = 0 ∨ k = 1 ∨ k = 2 ∨ k = 3 by omega) with rfl | rfl | rfl | rfl <;> exact rfl
  · rcases (show k = 0 ∨ k = 1 ∨ k = 2 ∨ k = 3 by omega) with rfl | rfl | rfl | rfl <;> exact ⟨rfl, rfl⟩
theorem skM : sk 122 = .inr (5, [some 123, some 124, some 125, some 126, some 127, some 128, some 129, some 130, some 131, some 132, some 133, some 134, some 135, some 136, some 137, some 138, none, some 139, some 140, some 141, some 142, some 143, none]) := rfl
theorem skA (i : Nat) (h : i < 21) : sk (123 + i) = .inl (mTy i, mLen i, none) := by
  unfold sk
  simp only [show ¬ 123 + i = 0 by omega, show ¬ 123 + i = 1 by omega, show ¬ 123 + i = 2 by omega, show ¬ 123 + i = 3 by omega, show ¬ 123 + i < 59 by omega, show ¬ 123 + i < 114 by omega, show ¬ 123 + i < 122 by omega, show ¬ 123 + i = 122 by omega, show 123 + i < 144 by omega, if_false, if_true, Nat.add_sub_cancel_left]
end
section
theorem kb_m10 : (Int8.ofInt (-10)).toInt32 = (-10) := by decide
theorem kb_m5 : (Int8.ofInt (-5)).toInt32 = (-5) := by decide
theorem kb_m4 : (Int8.ofInt (-4)).toInt32 = (-4) := by decide
theorem kb_m3 : (Int8.ofInt (-3)).toInt32 = (-3) := by decide
theorem kb_m2 : (Int8.ofInt (-2)).toInt32 = (-2) := by decide
theorem kb_6 : (Int8.ofInt 6).toInt32 = 6 := by decide
theorem kb_7 : (Int8.ofInt 7).toInt32 = 7 := by decide
theorem kb_8 : (Int8.ofInt 8).toInt32 = 8 := by decide
theorem kb_9 : (Int8.ofInt 9).toInt32 = 9 := by decide
theorem kb_10 : (Int8.ofInt 10).toInt32 = 10 := by decide
theorem kb_12 : (Int8.ofInt 12).toInt32 = 12 := by decide
theorem kb_13 : (Int8.ofInt 13).toInt32 = 13 := by decide
theorem kb_14 : (Int8.ofInt 14).toInt32 = 14 := by decide
theorem kb_16 : (Int8.ofInt 16).toInt32 = 16 := by decide
theorem kb_31 : (Int8.ofInt 31).toInt32 = 31 := by decide
theorem kb_40 : (Int8.ofInt 40).toInt32 = 40 := by decide
theorem kb_64 : (Int8.ofInt 64).toInt32 = 64 := by decide
theorem kb_96 : (Int8.ofInt 96).toInt32 = 96 := by decide
theorem kb_99 : (Int8.ofInt 99).toInt32 = 99 := by decide
theorem kb_100 : (Int8.ofInt 100).toInt32 = 100 := by decide
theorem kh_m1000 : (Int16.ofInt (-1000)).toInt32 = (-1000) := by decide
theorem kh_160 : (Int16.ofInt 160).toInt32 = 160 := by decide
theorem kh_192 : (Int16.ofInt 192).toInt32 = 192 := by decide
theorem kh_1000 : (Int16.ofInt 1000).toInt32 = 1000 := by decide
theorem kh_1001 : (Int16.ofInt 1001).toInt32 = 1001 := by decide
theorem ki_m1 : Int32.ofInt (-1) = (-1) := by decide
theorem ki_0 : Int32.ofInt 0 = 0 := by decide
theorem ki_1 : Int32.ofInt 1 = 1 := by decide
theorem ki_2 : Int32.ofInt 2 = 2 := by decide
theorem ki_3 : Int32.ofInt 3 = 3 := by decide
theorem ki_4 : Int32.ofInt 4 = 4 := by decide
theorem ki_5 : Int32.ofInt 5 = 5 := by decide
theorem kl_0 : Int64.ofNat (0 : Fin 2).val = 0 := by decide
section GV
variable {l : Launch} {D : va_G} {ac : Nat → ClassId} {b : Nat} {own : String} {cc : ByteArray} {nL : Nat} {rt : Option FieldType} {i0 : Bool} {fr lo mc ms : Nat} {r : RS} {cs sl pc q : Nat} {lv : List (Nat × Value)} {st : List Value} {X : RAM}
theorem g_getv {o ci kf i : Nat} {ss : List (Option Nat)} {v : Int32} (hd : decode cc pc = .ok (.getfield i, 3)) (hq : pc + 3 = q) (hF : FL own i ci kf) (hS : sk o = .inr (ci, ss)) (hk : ss[kf]? = some none) (hv : X o kf = v) (k : V l D ac b own cc nL rt i0 fr lo mc ms r cs sl q lv (.int v :: st) 144 (mk X)) : V l D ac b own cc nL rt i0 fr lo mc ms r cs sl pc lv (.ref o :: st) 144 (mk X) :=
  g_geti hd hq hF hS hk (by rw [hv]; exact k)
theorem g_ialv {a n j : Nat} {i v : Int32} (hd : decode cc pc = .ok (.iaload, 1)) (hq : pc + 1 = q) (hS : sk a = .inl (0, n, none)) (hn : n < 2147483648) (hi : i = nI j) (hj : j < n) (hv : X a j = v) (k : V l D ac b own cc nL rt i0 fr lo mc ms r cs sl q lv (.int v :: st) 144 (mk X)) : V l D ac b own cc nL rt i0 fr lo mc ms r cs sl pc lv (.int i :: .ref a :: st) 144 (mk X) :=
  g_iald hd hq hS hn hi hj (by rw [hv]; exact k)
theorem g_zalv {a n j : Nat} {i v : Int32} (hd : decode cc pc = .ok (.baload, 1)) (hq : pc + 1 = q) (hS : sk a = .inl (1, n, none)) (hn : n < 2147483648) (hi : i = nI j) (hj : j < n) (hv : X a j = v) (k : V l D ac b own cc nL rt i0 fr lo mc ms r cs sl q lv (.int v :: st) 144 (mk X)) : V l D ac b own cc nL rt i0 fr lo mc ms r cs sl pc lv (.int i :: .ref a :: st) 144 (mk X) :=
  g_zald hd hq hS hn hi hj (by rw [hv]; exact k)
end GV
def bI (p : Bool) : Int32 := if p then 1 else 0
theorem bI_t {p : Bool} (h : p = true) : bI p = 1 := by rw [h]; rfl
theorem bI_f {p : Bool} (h : p = false) : bI p = 0 := by rw [h]; rfl
theorem bI_0 {p : Bool} : bI p = 0 ↔ p = false := by cases p <;> decide
theorem bI_n0 {p : Bool} : ¬ bI p = 0 ↔ p = true := by cases p <;> decide
theorem bI_1 {p : Bool} : bI p = 1 ↔ p = true := by cases p <;> decide
theorem bI_d {p : Prop} [Decidable p] : bI (decide p) = 0 ↔ ¬ p := by rw [bI_0, decide_eq_false_iff_not]
theorem bI_dn {p : Prop} [Decidable p] : ¬ bI (decide p) = 0 ↔ p := by rw [bI_n0, decide_eq_true_iff]
theorem bI_cases (p : Bool) : bI p = 0 ∨ bI p = 1 := by cases p <;> decide
theorem bI_is1 {p : Prop} [Decidable p] (h : p) : (1 : Int32) = bI (decide p) := by rw [bI, if_pos (decide_eq_true h)]
theorem bI_is0 {p : Prop} [Decidable p] (h : ¬ p) : (0 : Int32) = bI (decide p) := by rw [bI, if_neg (fun q => h (of_decide_eq_true q))]
theorem okB {v : Int32} (h : v = 0 ∨ v = 1) : okV .boolean (.int v) := by
  rcases h with rfl | rfl
  · exact okV_0
  · exact okV_1
theorem nb {v : Int32} (h : v = 0 ∨ v = 1) : narrow .boolean (.int v) = .int v := by rcases h with rfl | rfl <;> rfl
theorem nbI (p : Bool) : narrow .boolean (.int (bI p)) = .int (bI p) := nb (bI_cases p)
theorem vb {v : Int32} (h : v = 0 ∨ v = 1) : vp_nar .boolean v = v := by rcases h with rfl | rfl <;> rfl
theorem vbI (p : Bool) : vp_nar .boolean (bI p) = bI p := vb (bI_cases p)
theorem okBI (p : Bool) : okV .boolean (.int (bI p)) := okB (bI_cases p)
theorem inc1 (i : Nat) : nI i + Int32.ofInt 1 = nI (i + 1) := by rw [ki_1]; exact nI_1 i
theorem lit (n : Nat) : (OfNat.ofNat n : Int32) = nI n := rfl
theorem nat_down {P : Nat → Prop} {n : Nat} (he : P n) (hs : ∀ i, i < n → P (i + 1) → P i) : ∀ i, i ≤ n → P i := by
  intro i hi
  induction h : n - i generalizing i with
  | zero =>
    have : i = n := by omega
    rw [this]
    exact he
  | succ k ih => exact hs i (by omega) (ih (i + 1) (by omega) (by omega))
theorem i_lt (a b : Int32) : a < b ↔ a.toInt < b.toInt := Int32.lt_iff_toInt_lt
theorem i_le (a b : Int32) : a ≤ b ↔ a.toInt ≤ b.toInt := Int32.le_iff_toInt_le
theorem i_eq (a b : Int32) : a = b ↔ a.toInt = b.toInt := ⟨fun h => by rw [h], fun h => Int32.toInt_inj.mp h⟩
theorem i_nle {a b : Int32} : ¬ a ≤ b ↔ b < a := by rw [i_le, i_lt]; omega
theorem i_nlt {a b : Int32} : ¬ a < b ↔ b ≤ a := by rw [i_le, i_lt]; omega
theorem tI_0 : (0 : Int32).toInt = 0 := by decide
theorem tI_1 : (1 : Int32).toInt = 1 := by decide
theorem tI_2 : (2 : Int32).toInt = 2 := by decide
theorem tI_3 : (3 : Int32).toInt = 3 := by decide
theorem tI_4 : (4 : Int32).toInt = 4 := by decide
theorem tI_7 : (7 : Int32).toInt = 7 := by decide
theorem tI_8 : (8 : Int32).toInt = 8 := by decide
theorem tI_10 : (10 : Int32).toInt = 10 := by decide
theorem tI_12 : (12 : Int32).toInt = 12 := by decide
theorem tI_13 : (13 : Int32).toInt = 13 := by decide
theorem tI_14 : (14 : Int32).toInt = 14 := by decide
theorem tI_40 : (40 : Int32).toInt = 40 := by decide
theorem tI_99 : (99 : Int32).toInt = 99 := by decide
theorem tI_100 : (100 : Int32).toInt = 100 := by decide
theorem tI_1000 : (1000 : Int32).toInt = 1000 := by decide
theorem tI_m1000 : (-1000 : Int32).toInt = -1000 := by decide
theorem tI_m1 : (-1 : Int32).toInt = -1 := by decide
theorem tI_mil : (1000000 : Int32).toInt = 1000000 := by decide
theorem nn_of {x : Int32} {n : Nat} (h0 : ¬ x < 0) (h1 : ¬ nI n ≤ x) (hn : n < 2147483648) : ∃ j, j < n ∧ x = nI j := by
  obtain ⟨j, hj, rfl⟩ := nI_of h0
  refine ⟨j, ?_, rfl⟩
  rcases Nat.lt_or_ge j n with h | h
  · exact h
  · exact absurd (nI_le h hj) h1
theorem um_u {X : RAM} {o k : Nat} {v : Int32} : up2 X o k v o k = v := by simp [up2, upd]
theorem up2_same {X : RAM} {o k j : Nat} {v : Int32} (h : j ≠ k) : up2 X o k v o j = X o j := by simp [up2, upd, h]
theorem up2_ne {X : RAM} {o o' k : Nat} {v : Int32} (h : o' ≠ o) : up2 X o k v o' = X o' := by simp [up2, h]
theorem up2_nej {X : RAM} {o o' k j : Nat} {v : Int32} (h : o' ≠ o) : up2 X o k v o' j = X o' j := by simp [up2, h]
theorem upA_ne {X : RAM} {a a' : Nat} {f : Nat → Int32} (h : a' ≠ a) : upA X a f a' = X a' := by simp [upA, h]
theorem upA_same {X : RAM} {a : Nat} {f : Nat → Int32} : upA X a f a = f := by simp [upA]
theorem up2_upA {X : RAM} {a k : Nat} {f : Nat → Int32} {v : Int32} : up2 (upA X a f) a k v = upA X a (upd f k v) := by
  funext i
  by_cases h : i = a
  · subst h; simp [up2, upA]
  · simp [up2, upA, h]
theorem up2_id {X : RAM} {a k : Nat} {v : Int32} : up2 X a k v = upA X a (upd (X a) k v) := by
  funext i
  by_cases h : i = a
  · subst h; simp [up2, upA]
  · simp [up2, upA, h]
theorem upA_self {X : RAM} {a : Nat} : upA X a (X a) = X := by
  funext i
  by_cases h : i = a
  · subst h; simp [upA]
  · simp [upA, h]
theorem upA_upA {X : RAM} {a : Nat} {f g : Nat → Int32} : upA (upA X a f) a g = upA X a g := by
  funext i
  by_cases h : i = a
  · subst h; simp [upA]
  · simp [upA, h]
end
section
section P06
variable {l : Launch} {D : va_G} {ac : Nat → ClassId} {b : Nat}
def filA (X : RAM) (a n : Nat) (v : Int32) : RAM := upA X a (fun k => if k < n then v else X a k)
theorem filA_0 (X : RAM) (a : Nat) (v : Int32) : filA X a 0 v = X := by
  funext i
  by_cases h : i = a
  · subst h; simp [filA, upA]
  · simp [filA, upA, h]
theorem filA_s (X : RAM) (a i : Nat) (v : Int32) : up2 (filA X a i v) a i v = filA X a (i + 1) v := by
  unfold filA
  rw [up2_upA]
  congr 1
  funext k
  by_cases h : k = i
  · subst h; simp [upd]
  · simp only [upd, h, if_false]
    by_cases h2 : k < i
    · rw [if_pos h2, if_pos (by omega)]
    · rw [if_neg h2, if_neg (by omega)]
theorem lp_fill {X : RAM} {a n : Nat} {v : Int32} (hS : sk a = .inl (0, n, none)) (hn : n < 2147483648) : ∀ i, i ≤ n → V l D ac b "java/util/Arrays" c_J_fill 4 none false 0 0 0 0 (none, 144, mk (filA X a n v)) 0 0 5 [(0, .ref a), (1, .int v), (2, .int (nI i)), (3, .int (nI n))] [] 144 (mk (filA X a i v)) := by
  refine nat_down ?_ (fun i hi ih => ?_)
  · -- exit
    refine s_iload_n (q := 6) d_J_fill_5 rfl rfl ?_
    refine s_iload_n (q := 7) d_J_fill_6 rfl rfl ?_
    refine s_icmp_ge (tgt := 20) (q := 10) d_J_fill_7 (by decide) rfl (fun _ => ?_) (fun z => absurd (nI_le (Nat.le_refl n) hn) z)
    exact g_ret d_J_fill_20 rfl rfl
  · -- step
    refine s_iload_n (q := 6) d_J_fill_5 rfl rfl ?_
    refine s_iload_n (q := 7) d_J_fill_6 rfl rfl ?_
    refine s_icmp_ge (tgt := 20) (q := 10) d_J_fill_7 (by decide) rfl (fun z => absurd z (nI_ge hi hn)) (fun _ => ?_)
    refine s_aload_n (q := 11) d_J_fill_10 rfl rfl (Or.inr ⟨_, rfl⟩) ?_
    refine s_iload_n (q := 12) d_J_fill_11 rfl rfl ?_
    refine s_iload_n (q := 13) d_J_fill_12 rfl rfl ?_
    refine g_iast (q := 14) d_J_fill_13 rfl hS (by omega) rfl hi ?_
    rw [filA_s]
    refine s_iinc (q := 17) d_J_fill_14 rfl rfl (by first | exact inc1 _ | rfl) (by decide) ?_
    refine s_goto (tgt := 5) d_J_fill_17 (by decide) ?_
    refine s_lv (lv' := [(0, .ref a), (1, .int v), (2, .int (nI (i + 1))), (3, .int (nI n))]) ⟨rfl, rfl, rfl, rfl, trivial⟩ ih
theorem t_J_fill {X : RAM} {a n : Nat} {v : Int32} (hS : sk a = .inl (0, n, none)) (hn : n < 2147483648) : CG l D ac b y_J_fill c_J_fill 4 none 0 0 [.ref a, .int v] X (none) (filA X a n v) := by
  refine Ct_of false (by decide) (fun h => by cases h) (Nat.le_of_ble_eq_true rfl) ?_
  show V l D ac b "java/util/Arrays" c_J_fill 4 none false 0 0 0 0 ((none), 144, mk (filA X a n v)) 0 0 0 [(0, .ref a), (1, .int v)] [] 144 (mk X)
  refine s_iconst (v := 0) (q := 1) d_J_fill_0 rfl ki_0 ?_
  refine s_istore_n (q := 2) d_J_fill_1 rfl (by decide) ?_
  refine s_aload_n (q := 3) d_J_fill_2 rfl rfl (Or.inr ⟨_, rfl⟩) ?_
  refine g_alen (q := 4) d_J_fill_3 rfl hS (by decide) ?_
  refine s_istore_n (q := 5) d_J_fill_4 rfl (by decide) ?_
  have h := lp_fill (l := l) (D := D) (ac := ac) (b := b) (X := X) (v := v) hS hn 0 (Nat.zero_le n)
  rw [filA_0] at h
  exact s_lv (lv' := [(0, .ref a), (1, .int v), (2, .int (nI 0)), (3, .int (nI n))]) ⟨rfl, rfl, rfl, rfl, trivial⟩ h
theorem t_S_renew {X : RAM} {o : Nat} {f n : Int32} (hS : isS o) : CG l D ac b y_S_renew c_S_renew 3 none 1 23 [.ref o, .int f, .int n] X (none) (up2 (up2 (up2 (filA X (o + 1) 40 0) o 1 f) o 2 n) o 3 0) := by
  refine Ct_of false (by decide) (fun h => by cases h) (Nat.le_of_ble_eq_true rfl) ?_
  show V l D ac b "SpanStore$Sheet" c_S_renew 3 none false 1 23 0 0 ((none), 144, mk (up2 (up2 (up2 (filA X (o + 1) 40 0) o 1 f) o 2 n) o 3 0)) 0 0 0 [(0, .ref o), (1, .int f), (2, .int n)] [] 144 (mk X)
  refine s_aload_n (q := 1) d_S_renew_0 rfl rfl (Or.inr ⟨_, rfl⟩) ?_
  refine g_getr (q := 4) d_S_renew_1 rfl fl_S_9 hS.1 rfl ?_
  refine s_iconst (v := 0) (q := 5) d_S_renew_4 rfl ki_0 ?_
  refine g_callS (q := 8) d_S_renew_5 rfl ml_S_19 mx_J_fill ms_J_fill (t_J_fill hS.2 (by decide)) rfl rfl (Nat.le_of_ble_eq_true rfl) (by decide) ?_
  refine s_aload_n (q := 9) d_S_renew_8 rfl rfl (Or.inr ⟨_, rfl⟩) ?_
  refine s_iload_n (q := 10) d_S_renew_9 rfl rfl ?_
  refine g_puti (q := 13) d_S_renew_10 rfl fl_S_25 rfl (okV_int _) hS.1 rfl ?_
  refine s_aload_n (q := 14) d_S_renew_13 rfl rfl (Or.inr ⟨_, rfl⟩) ?_
  refine s_iload_n (q := 15) d_S_renew_14 rfl rfl ?_
  refine g_puti (q := 18) d_S_renew_15 rfl fl_S_29 rfl (okV_int _) hS.1 rfl ?_
  refine s_aload_n (q := 19) d_S_renew_18 rfl rfl (Or.inr ⟨_, rfl⟩) ?_
  refine s_iconst (v := 0) (q := 20) d_S_renew_19 rfl ki_0 ?_
  refine g_puti (q := 23) d_S_renew_20 rfl fl_S_15 rfl (okB (by first | exact Or.inl rfl | exact Or.inr rfl | assumption)) hS.1 rfl ?_
  exact g_ret d_S_renew_23 rfl rfl
def faultV (X : RAM) (o : Nat) (f i : Int32) : Int32 := if X o 3 = 0 then (if X o 1 = f then (if i < 0 then 2 else if X o 2 ≤ i then 2 else 0) else 3) else 1
theorem t_S_faultOf {X : RAM} {o : Nat} {f i : Int32} (hS : isS o) : CG l D ac b y_S_faultOf c_S_faultOf 3 (some .int) 0 0 [.ref o, .int f, .int i] X (some (.int (faultV X o f i))) (X) := by
  refine Ct_of false (by decide) (fun h => by cases h) (Nat.le_of_ble_eq_true rfl) ?_
  show V l D ac b "SpanStore$Sheet" c_S_faultOf 3 (some .int) false 0 0 0 0 ((some (.int (faultV X o f i))), 144, mk (X)) 0 0 0 [(0, .ref o), (1, .int f), (2, .int i)] [] 144 (mk X)
  refine s_aload_n (q := 1) d_S_faultOf_0 rfl rfl (Or.inr ⟨_, rfl⟩) ?_
  refine g_geti (q := 4) d_S_faultOf_1 rfl fl_S_15 hS.1 rfl ?_
  refine s_if_eq (tgt := 9) (q := 7) d_S_faultOf_4 (by decide) rfl (fun h_4 => ?_) (fun h_4 => ?_)
  · -- T 4
    refine s_aload_n (q := 10) d_S_faultOf_9 rfl rfl (Or.inr ⟨_, rfl⟩) ?_
    refine g_geti (q := 13) d_S_faultOf_10 rfl fl_S_25 hS.1 rfl ?_
    refine s_iload_n (q := 14) d_S_faultOf_13 rfl rfl ?_
    refine s_icmp_eq (tgt := 19) (q := 17) d_S_faultOf_14 (by decide) rfl (fun h_14 => ?_) (fun h_14 => ?_)
    · -- T 14
      refine s_iload_n (q := 20) d_S_faultOf_19 rfl rfl ?_
      refine s_if_lt (tgt := 31) (q := 23) d_S_faultOf_20 (by decide) rfl (fun h_20 => ?_) (fun h_20 => ?_)
      · -- T 20
        refine s_iconst (v := 2) (q := 32) d_S_faultOf_31 rfl ki_2 ?_
        refine s_goto (tgt := 36) d_S_faultOf_32 (by decide) ?_
        exact g_iret d_S_faultOf_36 rfl rfl (by simp [faultV, *]) rfl
      · -- F 20
        refine s_iload_n (q := 24) d_S_faultOf_23 rfl rfl ?_
        refine s_aload_n (q := 25) d_S_faultOf_24 rfl rfl (Or.inr ⟨_, rfl⟩) ?_
        refine g_geti (q := 28) d_S_faultOf_25 rfl fl_S_29 hS.1 rfl ?_
        refine s_icmp_lt (tgt := 35) (q := 31) d_S_faultOf_28 (by decide) rfl (fun h_28 => ?_) (fun h_28 => ?_)
        · -- T 28
          refine s_iconst (v := 0) (q := 36) d_S_faultOf_35 rfl ki_0 ?_
          exact g_iret d_S_faultOf_36 rfl rfl (by simp [faultV, *]) rfl
        · -- F 28
          refine s_iconst (v := 2) (q := 32) d_S_faultOf_31 rfl ki_2 ?_
          refine s_goto (tgt := 36) d_S_faultOf_32 (by decide) ?_
          exact g_iret d_S_faultOf_36 rfl rfl (by simp [faultV, *]) rfl
    · -- F 14
      refine s_iconst (v := 3) (q := 18) d_S_faultOf_17 rfl ki_3 ?_
      exact g_iret d_S_faultOf_18 rfl rfl (by simp [faultV, *]) rfl
  · -- F 4
    refine s_iconst (v := 1) (q := 8) d_S_faultOf_7 rfl ki_1 ?_
    exact g_iret d_S_faultOf_8 rfl rfl (by simp [faultV, *]) rfl
def strV (n f z : Int32) : Bool := decide (¬ f < 0 ∧ ¬ z < 0 ∧ f ≤ n ∧ z ≤ n - f)
theorem t_S_hasStretch {X : RAM} {o : Nat} {f z : Int32} (hS : isS o) : CG l D ac b y_S_hasStretch c_S_hasStretch 3 (some .boolean) 0 0 [.ref o, .int f, .int z] X (some (.int (bI (strV (X o 2) f z)))) (X) := by
  refine Ct_of false (by decide) (fun h => by cases h) (Nat.le_of_ble_eq_true rfl) ?_
  show V l D ac b "SpanStore$Sheet" c_S_hasStretch 3 (some .boolean) false 0 0 0 0 ((some (.int (bI (strV (X o 2) f z)))), 144, mk (X)) 0 0 0 [(0, .ref o), (1, .int f), (2, .int z)] [] 144 (mk X)
  refine s_iload_n (q := 1) d_S_hasStretch_0 rfl rfl ?_
  refine s_if_lt (tgt := 30) (q := 4) d_S_hasStretch_1 (by decide) rfl (fun h_1 => ?_) (fun h_1 => ?_)
  · -- T 1
    refine s_iconst (v := 0) (q := 31) d_S_hasStretch_30 rfl ki_0 ?_
    exact g_iret d_S_hasStretch_31 rfl rfl (by first | exact bI_is1 (by (try simp only [bI_d, bI_dn, strV, remI] at *); simp only [i_le, i_lt, i_eq, tI_0, tI_1, tI_2, tI_3, tI_4, tI_7, tI_8, tI_10, tI_12, tI_13, tI_14, tI_40, tI_99, tI_100, tI_1000, tI_m1000, tI_m1, tI_mil] at *; omega) | exact bI_is0 (by (try simp only [bI_d, bI_dn, strV, remI] at *); simp only [i_le, i_lt, i_eq, tI_0, tI_1, tI_2, tI_3, tI_4, tI_7, tI_8, tI_10, tI_12, tI_13, tI_14, tI_40, tI_99, tI_100, tI_1000, tI_m1000, tI_m1, tI_mil] at *; omega)) rfl
  · -- F 1
    refine s_iload_n (q := 5) d_S_hasStretch_4 rfl rfl ?_
    refine s_if_lt (tgt := 30) (q := 8) d_S_hasStretch_5 (by decide) rfl (fun h_5 => ?_) (fun h_5 => ?_)
    · -- T 5
      refine s_iconst (v := 0) (q := 31) d_S_hasStretch_30 rfl ki_0 ?_
      exact g_iret d_S_hasStretch_31 rfl rfl (by first | exact bI_is1 (by (try simp only [bI_d, bI_dn, strV, remI] at *); simp only [i_le, i_lt, i_eq, tI_0, tI_1, tI_2, tI_3, tI_4, tI_7, tI_8, tI_10, tI_12, tI_13, tI_14, tI_40, tI_99, tI_100, tI_1000, tI_m1000, tI_m1, tI_mil] at *; omega) | exact bI_is0 (by (try simp only [bI_d, bI_dn, strV, remI] at *); simp only [i_le, i_lt, i_eq, tI_0, tI_1, tI_2, tI_3, tI_4, tI_7, tI_8, tI_10, tI_12, tI_13, tI_14, tI_40, tI_99, tI_100, tI_1000, tI_m1000, tI_m1, tI_mil] at *; omega)) rfl
    · -- F 5
      refine s_iload_n (q := 9) d_S_hasStretch_8 rfl rfl ?_
      refine s_aload_n (q := 10) d_S_hasStretch_9 rfl rfl (Or.inr ⟨_, rfl⟩) ?_
      refine g_geti (q := 13) d_S_hasStretch_10 rfl fl_S_29 hS.1 rfl ?_
      refine s_icmp_gt (tgt := 30) (q := 16) d_S_hasStretch_13 (by decide) rfl (fun h_13 => ?_) (fun h_13 => ?_)
      · -- T 13
        refine s_iconst (v := 0) (q := 31) d_S_hasStretch_30 rfl ki_0 ?_
        exact g_iret d_S_hasStretch_31 rfl rfl (by first | exact bI_is1 (by (try simp only [bI_d, bI_dn, strV, remI] at *); simp only [i_le, i_lt, i_eq, tI_0, tI_1, tI_2, tI_3, tI_4, tI_7, tI_8, tI_10, tI_12, tI_13, tI_14, tI_40, tI_99, tI_100, tI_1000, tI_m1000, tI_m1, tI_mil] at *; omega) | exact bI_is0 (by (try simp only [bI_d, bI_dn, strV, remI] at *); simp only [i_le, i_lt, i_eq, tI_0, tI_1, tI_2, tI_3, tI_4, tI_7, tI_8, tI_10, tI_12, tI_13, tI_14, tI_40, tI_99, tI_100, tI_1000, tI_m1000, tI_m1, tI_mil] at *; omega)) rfl
      · -- F 13
        refine s_iload_n (q := 17) d_S_hasStretch_16 rfl rfl ?_
        refine s_aload_n (q := 18) d_S_hasStretch_17 rfl rfl (Or.inr ⟨_, rfl⟩) ?_
        refine g_geti (q := 21) d_S_hasStretch_18 rfl fl_S_29 hS.1 rfl ?_
        refine s_iload_n (q := 22) d_S_hasStretch_21 rfl rfl ?_
        refine s_isub (q := 23) d_S_hasStretch_22 rfl ?_
        refine s_icmp_gt (tgt := 30) (q := 26) d_S_hasStretch_23 (by decide) rfl (fun h_23 => ?_) (fun h_23 => ?_)
        · -- T 23
          refine s_iconst (v := 0) (q := 31) d_S_hasStretch_30 rfl ki_0 ?_
          exact g_iret d_S_hasStretch_31 rfl rfl (by first | exact bI_is1 (by (try simp only [bI_d, bI_dn, strV, remI] at *); simp only [i_le, i_lt, i_eq, tI_0, tI_1, tI_2, tI_3, tI_4, tI_7, tI_8, tI_10, tI_12, tI_13, tI_14, tI_40, tI_99, tI_100, tI_1000, tI_m1000, tI_m1, tI_mil] at *; omega) | exact bI_is0 (by (try simp only [bI_d, bI_dn, strV, remI] at *); simp only [i_le, i_lt, i_eq, tI_0, tI_1, tI_2, tI_3, tI_4, tI_7, tI_8, tI_10, tI_12, tI_13, tI_14, tI_40, tI_99, tI_100, tI_1000, tI_m1000, tI_m1, tI_mil] at *; omega)) rfl
        · -- F 23
          refine s_iconst (v := 1) (q := 27) d_S_hasStretch_26 rfl ki_1 ?_
          refine s_goto (tgt := 31) d_S_hasStretch_27 (by decide) ?_
          exact g_iret d_S_hasStretch_31 rfl rfl (by first | exact bI_is1 (by (try simp only [bI_d, bI_dn, strV, remI] at *); simp only [i_le, i_lt, i_eq, tI_0, tI_1, tI_2, tI_3, tI_4, tI_7, tI_8, tI_10, tI_12, tI_13, tI_14, tI_40, tI_99, tI_100, tI_1000, tI_m1000, tI_m1, tI_mil] at *; omega) | exact bI_is0 (by (try simp only [bI_d, bI_dn, strV, remI] at *); simp only [i_le, i_lt, i_eq, tI_0, tI_1, tI_2, tI_3, tI_4, tI_7, tI_8, tI_10, tI_12, tI_13, tI_14, tI_40, tI_99, tI_100, tI_1000, tI_m1000, tI_m1, tI_mil] at *; omega)) rfl
def cutV (f v : Int32) : Int32 := if f = 0 then v.toInt8.toInt32 else if f = 1 then v.toInt16.toInt32 else v
theorem t_S_cut {X : RAM} {o : Nat} {v : Int32} (hS : isS o) : CG l D ac b y_S_cut c_S_cut 2 (some .int) 0 0 [.ref o, .int v] X (some (.int (cutV (X o 1) v))) X := by
  refine Ct_of false (by decide) (fun h => by cases h) (Nat.le_of_ble_eq_true rfl) ?_
  show V l D ac b "SpanStore$Sheet" c_S_cut 2 (some .int) false 0 0 0 0 ((some (.int (cutV (X o 1) v))), 144, mk X) 0 0 0 [(0, .ref o), (1, .int v)] [] 144 (mk X)
  by_cases h0 : X o 1 = 0
  · skip
    refine s_aload_n (q := 1) d_S_cut_0 rfl rfl (Or.inr ⟨_, rfl⟩) ?_
    refine g_geti (q := 4) d_S_cut_1 rfl fl_S_25 hS.1 rfl ?_
    refine s_ls (tgt := 32) d_S_cut_4 (by decide) (by rw [h0]) (by decide) ?_
    refine s_iload_n (q := 33) d_S_cut_32 rfl rfl ?_
    refine s_i2b (q := 34) d_S_cut_33 rfl ?_
    exact g_iret d_S_cut_34 rfl rfl (by simp [cutV, h0]) rfl
  by_cases h1 : X o 1 = 1
  · skip
    refine s_aload_n (q := 1) d_S_cut_0 rfl rfl (Or.inr ⟨_, rfl⟩) ?_
    refine g_geti (q := 4) d_S_cut_1 rfl fl_S_25 hS.1 rfl ?_
    refine s_ls (tgt := 35) d_S_cut_4 (by decide) (by rw [h1]) (by decide) ?_
    refine s_iload_n (q := 36) d_S_cut_35 rfl rfl ?_
    refine s_i2s (q := 37) d_S_cut_36 rfl ?_
    exact g_iret d_S_cut_37 rfl rfl (by simp [cutV, h1]) rfl
  · skip
    refine s_aload_n (q := 1) d_S_cut_0 rfl rfl (Or.inr ⟨_, rfl⟩) ?_
    refine g_geti (q := 4) d_S_cut_1 rfl fl_S_25 hS.1 rfl ?_
    refine s_ls (tgt := 38) d_S_cut_4 (by decide) (by simp [Op.lookupswitch.offset]; rw [if_neg (fun h => h0 ((i_eq _ _).mpr h.symm)), if_neg (fun h => h1 ((i_eq _ _).mpr h.symm))]) (by decide) ?_
    refine s_iload_n (q := 39) d_S_cut_38 rfl rfl ?_
    exact g_iret d_S_cut_39 rfl rfl (by simp [cutV, h0, h1]) rfl
theorem t_S_store {X : RAM} {o k n : Nat} {v : Int32} (hS : isS o) (hsz : X o 2 = nI n) (hk : k < n) (hn : n ≤ 40) : CG l D ac b y_S_store c_S_store 3 none 1 21 [.ref o, .int (nI k), .int v] X (none) (up2 X (o + 1) k (cutV (X o 1) v)) := by
  refine Ct_of false (by decide) (fun h => by cases h) (Nat.le_of_ble_eq_true rfl) ?_
  show V l D ac b "SpanStore$Sheet" c_S_store 3 none false 1 21 0 0 ((none), 144, mk (up2 X (o + 1) k (cutV (X o 1) v))) 0 0 0 [(0, .ref o), (1, .int (nI k)), (2, .int v)] [] 144 (mk X)
  refine s_iload_n (q := 1) d_S_store_0 rfl rfl ?_
  refine s_if_lt (tgt := 23) (q := 4) d_S_store_1 (by decide) rfl (fun z => absurd z (nI_pos (by omega))) (fun _ => ?_)
  refine s_iload_n (q := 5) d_S_store_4 rfl rfl ?_
  refine s_aload_n (q := 6) d_S_store_5 rfl rfl (Or.inr ⟨_, rfl⟩) ?_
  refine g_geti (q := 9) d_S_store_6 rfl fl_S_29 hS.1 rfl ?_
  refine s_icmp_ge (tgt := 23) (q := 12) d_S_store_9 (by decide) rfl (fun z => absurd z (by rw [hsz]; exact nI_ge hk (by omega))) (fun _ => ?_)
  refine s_aload_n (q := 13) d_S_store_12 rfl rfl (Or.inr ⟨_, rfl⟩) ?_
  refine g_getr (q := 16) d_S_store_13 rfl fl_S_9 hS.1 rfl ?_
  refine s_iload_n (q := 17) d_S_store_16 rfl rfl ?_
  refine s_aload_n (q := 18) d_S_store_17 rfl rfl (Or.inr ⟨_, rfl⟩) ?_
  refine s_iload_n (q := 19) d_S_store_18 rfl rfl ?_
  refine g_callV (q := 22) d_S_store_19 rfl ml_S_32 mx_S_cut mv_S_cut (t_S_cut hS) hS.1 rfl rfl (Nat.le_of_ble_eq_true rfl) (by decide) ?_
  refine g_iast (q := 23) d_S_store_22 rfl hS.2 (by omega) rfl (by omega) ?_
  exact g_ret d_S_store_23 rfl rfl
theorem t_K_become {X : RAM} {o : Nat} {kd a c : Int32} (hK : isK o) : CG l D ac b y_K_become c_K_become 4 none 0 0 [.ref o, .int kd, .int a, .int c] X (none) (up2 (up2 (up2 X o 0 kd) o 1 a) o 2 c) := by
  refine Ct_of false (by decide) (fun h => by cases h) (Nat.le_of_ble_eq_true rfl) ?_
  show V l D ac b "SpanStore$Keeper" c_K_become 4 none false 0 0 0 0 ((none), 144, mk (up2 (up2 (up2 X o 0 kd) o 1 a) o 2 c)) 0 0 0 [(0, .ref o), (1, .int kd), (2, .int a), (3, .int c)] [] 144 (mk X)
  refine s_aload_n (q := 1) d_K_become_0 rfl rfl (Or.inr ⟨_, rfl⟩) ?_
  refine s_iload_n (q := 2) d_K_become_1 rfl rfl ?_
  refine g_puti (q := 5) d_K_become_2 rfl fl_K_9 rfl (okV_int _) hK rfl ?_
  refine s_aload_n (q := 6) d_K_become_5 rfl rfl (Or.inr ⟨_, rfl⟩) ?_
  refine s_iload_n (q := 7) d_K_become_6 rfl rfl ?_
  refine g_puti (q := 10) d_K_become_7 rfl fl_K_15 rfl (okV_int _) hK rfl ?_
  refine s_aload_n (q := 11) d_K_become_10 rfl rfl (Or.inr ⟨_, rfl⟩) ?_
  refine s_iload_n (q := 12) d_K_become_11 rfl rfl ?_
  refine g_puti (q := 15) d_K_become_12 rfl fl_K_18 rfl (okV_int _) hK rfl ?_
  exact g_ret d_K_become_15 rfl rfl
def inV (v a c : Int32) : Prop := a ≤ v ∧ v ≤ c
theorem t_C_isValue {X : RAM} {v : Int32} : CG l D ac b y_C_isValue c_C_isValue 1 (some .boolean) 0 0 [.int v] X (some (.int (bI (decide ((-1000) ≤ v ∧ v ≤ 1000))))) (X) := by
  refine Ct_of false (by decide) (fun h => by cases h) (Nat.le_of_ble_eq_true rfl) ?_
  show V l D ac b "SpanStore" c_C_isValue 1 (some .boolean) false 0 0 0 0 ((some (.int (bI (decide ((-1000) ≤ v ∧ v ≤ 1000))))), 144, mk (X)) 0 0 0 [(0, .int v)] [] 144 (mk X)
  refine s_iload_n (q := 1) d_C_isValue_0 rfl rfl ?_
  refine s_sipush (v := (-1000)) (q := 4) d_C_isValue_1 rfl kh_m1000 ?_
  refine s_icmp_lt (tgt := 18) (q := 7) d_C_isValue_4 (by decide) rfl (fun h_4 => ?_) (fun h_4 => ?_)
  · -- T 4
    refine s_iconst (v := 0) (q := 19) d_C_isValue_18 rfl ki_0 ?_
    exact g_iret d_C_isValue_19 rfl rfl (by first | exact bI_is1 (by (try simp only [bI_d, bI_dn, strV, remI] at *); simp only [i_le, i_lt, i_eq, tI_0, tI_1, tI_2, tI_3, tI_4, tI_7, tI_8, tI_10, tI_12, tI_13, tI_14, tI_40, tI_99, tI_100, tI_1000, tI_m1000, tI_m1, tI_mil] at *; omega) | exact bI_is0 (by (try simp only [bI_d, bI_dn, strV, remI] at *); simp only [i_le, i_lt, i_eq, tI_0, tI_1, tI_2, tI_3, tI_4, tI_7, tI_8, tI_10, tI_12, tI_13, tI_14, tI_40, tI_99, tI_100, tI_1000, tI_m1000, tI_m1, tI_mil] at *; omega)) rfl
  · -- F 4
    refine s_iload_n (q := 8) d_C_isValue_7 rfl rfl ?_
    refine s_sipush (v := 1000) (q := 11) d_C_isValue_8 rfl kh_1000 ?_
    refine s_icmp_gt (tgt := 18) (q := 14) d_C_isValue_11 (by decide) rfl (fun h_11 => ?_) (fun h_11 => ?_)
    · -- T 11
      refine s_iconst (v := 0) (q := 19) d_C_isValue_18 rfl ki_0 ?_
      exact g_iret d_C_isValue_19 rfl rfl (by first | exact bI_is1 (by (try simp only [bI_d, bI_dn, strV, remI] at *); simp only [i_le, i_lt, i_eq, tI_0, tI_1, tI_2, tI_3, tI_4, tI_7, tI_8, tI_10, tI_12, tI_13, tI_14, tI_40, tI_99, tI_100, tI_1000, tI_m1000, tI_m1, tI_mil] at *; omega) | exact bI_is0 (by (try simp only [bI_d, bI_dn, strV, remI] at *); simp only [i_le, i_lt, i_eq, tI_0, tI_1, tI_2, tI_3, tI_4, tI_7, tI_8, tI_10, tI_12, tI_13, tI_14, tI_40, tI_99, tI_100, tI_1000, tI_m1000, tI_m1, tI_mil] at *; omega)) rfl
    · -- F 11
      refine s_iconst (v := 1) (q := 15) d_C_isValue_14 rfl ki_1 ?_
      refine s_goto (tgt := 19) d_C_isValue_15 (by decide) ?_
      exact g_iret d_C_isValue_19 rfl rfl (by first | exact bI_is1 (by (try simp only [bI_d, bI_dn, strV, remI] at *); simp only [i_le, i_lt, i_eq, tI_0, tI_1, tI_2, tI_3, tI_4, tI_7, tI_8, tI_10, tI_12, tI_13, tI_14, tI_40, tI_99, tI_100, tI_1000, tI_m1000, tI_m1, tI_mil] at *; omega) | exact bI_is0 (by (try simp only [bI_d, bI_dn, strV, remI] at *); simp only [i_le, i_lt, i_eq, tI_0, tI_1, tI_2, tI_3, tI_4, tI_7, tI_8, tI_10, tI_12, tI_13, tI_14, tI_40, tI_99, tI_100, tI_1000, tI_m1000, tI_m1, tI_mil] at *; omega)) rfl
theorem t_C_isRow {X : RAM} {k g v : Int32} : CG l D ac b y_C_isRow c_C_isRow 3 (some .boolean) 1 20 [.int k, .int g, .int v] X (some (.int (bI (decide ((¬ k < 0 ∧ k < 100) ∧ (¬ g < 0 ∧ g < 4) ∧ (-1000) ≤ v ∧ v ≤ 1000))))) (X) := by
  refine Ct_of false (by decide) (fun h => by cases h) (Nat.le_of_ble_eq_true rfl) ?_
  show V l D ac b "SpanStore" c_C_isRow 3 (some .boolean) false 1 20 0 0 ((some (.int (bI (decide ((¬ k < 0 ∧ k < 100) ∧ (¬ g < 0 ∧ g < 4) ∧ (-1000) ≤ v ∧ v ≤ 1000))))), 144, mk (X)) 0 0 0 [(0, .int k), (1, .int g), (2, .int v)] [] 144 (mk X)
  refine s_iload_n (q := 1) d_C_isRow_0 rfl rfl ?_
  refine s_if_lt (tgt := 30) (q := 4) d_C_isRow_1 (by decide) rfl (fun h_1 => ?_) (fun h_1 => ?_)
  · -- T 1
    refine s_iconst (v := 0) (q := 31) d_C_isRow_30 rfl ki_0 ?_
    exact g_iret d_C_isRow_31 rfl rfl (by first | exact bI_is1 (by (try simp only [bI_d, bI_dn, strV, remI] at *); simp only [i_le, i_lt, i_eq, tI_0, tI_1, tI_2, tI_3, tI_4, tI_7, tI_8, tI_10, tI_12, tI_13, tI_14, tI_40, tI_99, tI_100, tI_1000, tI_m1000, tI_m1, tI_mil] at *; omega) | exact bI_is0 (by (try simp only [bI_d, bI_dn, strV, remI] at *); simp only [i_le, i_lt, i_eq, tI_0, tI_1, tI_2, tI_3, tI_4, tI_7, tI_8, tI_10, tI_12, tI_13, tI_14, tI_40, tI_99, tI_100, tI_1000, tI_m1000, tI_m1, tI_mil] at *; omega)) rfl
  · -- F 1
    refine s_iload_n (q := 5) d_C_isRow_4 rfl rfl ?_
    refine s_bipush (v := 100) (q := 7) d_C_isRow_5 rfl kb_100 ?_
    refine s_icmp_ge (tgt := 30) (q := 10) d_C_isRow_7 (by decide) rfl (fun h_7 => ?_) (fun h_7 => ?_)
    · -- T 7
      refine s_iconst (v := 0) (q := 31) d_C_isRow_30 rfl ki_0 ?_
      exact g_iret d_C_isRow_31 rfl rfl (by first | exact bI_is1 (by (try simp only [bI_d, bI_dn, strV, remI] at *); simp only [i_le, i_lt, i_eq, tI_0, tI_1, tI_2, tI_3, tI_4, tI_7, tI_8, tI_10, tI_12, tI_13, tI_14, tI_40, tI_99, tI_100, tI_1000, tI_m1000, tI_m1, tI_mil] at *; omega) | exact bI_is0 (by (try simp only [bI_d, bI_dn, strV, remI] at *); simp only [i_le, i_lt, i_eq, tI_0, tI_1, tI_2, tI_3, tI_4, tI_7, tI_8, tI_10, tI_12, tI_13, tI_14, tI_40, tI_99, tI_100, tI_1000, tI_m1000, tI_m1, tI_mil] at *; omega)) rfl
    · -- F 7
      refine s_iload_n (q := 11) d_C_isRow_10 rfl rfl ?_
      refine s_if_lt (tgt := 30) (q := 14) d_C_isRow_11 (by decide) rfl (fun h_11 => ?_) (fun h_11 => ?_)
      · -- T 11
        refine s_iconst (v := 0) (q := 31) d_C_isRow_30 rfl ki_0 ?_
        exact g_iret d_C_isRow_31 rfl rfl (by first | exact bI_is1 (by (try simp only [bI_d, bI_dn, strV, remI] at *); simp only [i_le, i_lt, i_eq, tI_0, tI_1, tI_2, tI_3, tI_4, tI_7, tI_8, tI_10, tI_12, tI_13, tI_14, tI_40, tI_99, tI_100, tI_1000, tI_m1000, tI_m1, tI_mil] at *; omega) | exact bI_is0 (by (try simp only [bI_d, bI_dn, strV, remI] at *); simp only [i_le, i_lt, i_eq, tI_0, tI_1, tI_2, tI_3, tI_4, tI_7, tI_8, tI_10, tI_12, tI_13, tI_14, tI_40, tI_99, tI_100, tI_1000, tI_m1000, tI_m1, tI_mil] at *; omega)) rfl
      · -- F 11
        refine s_iload_n (q := 15) d_C_isRow_14 rfl rfl ?_
        refine s_iconst (v := 4) (q := 16) d_C_isRow_15 rfl ki_4 ?_
        refine s_icmp_ge (tgt := 30) (q := 19) d_C_isRow_16 (by decide) rfl (fun h_16 => ?_) (fun h_16 => ?_)
        · -- T 16
          refine s_iconst (v := 0) (q := 31) d_C_isRow_30 rfl ki_0 ?_
          exact g_iret d_C_isRow_31 rfl rfl (by first | exact bI_is1 (by (try simp only [bI_d, bI_dn, strV, remI] at *); simp only [i_le, i_lt, i_eq, tI_0, tI_1, tI_2, tI_3, tI_4, tI_7, tI_8, tI_10, tI_12, tI_13, tI_14, tI_40, tI_99, tI_100, tI_1000, tI_m1000, tI_m1, tI_mil] at *; omega) | exact bI_is0 (by (try simp only [bI_d, bI_dn, strV, remI] at *); simp only [i_le, i_lt, i_eq, tI_0, tI_1, tI_2, tI_3, tI_4, tI_7, tI_8, tI_10, tI_12, tI_13, tI_14, tI_40, tI_99, tI_100, tI_1000, tI_m1000, tI_m1, tI_mil] at *; omega)) rfl
        · -- F 16
          refine s_iload_n (q := 20) d_C_isRow_19 rfl rfl ?_
          refine g_callS (q := 23) d_C_isRow_20 rfl ml_C_98 mx_C_isValue ms_C_isValue t_C_isValue rfl rfl (Nat.le_of_ble_eq_true rfl) (by decide) ?_
          refine s_if_eq (tgt := 30) (q := 26) d_C_isRow_23 (by decide) rfl (fun h_23 => ?_) (fun h_23 => ?_)
          · -- T 23
            rw [bI_d] at h_23
            refine s_iconst (v := 0) (q := 31) d_C_isRow_30 rfl ki_0 ?_
            exact g_iret d_C_isRow_31 rfl rfl (by first | exact bI_is1 (by (try simp only [bI_d, bI_dn, strV, remI] at *); simp only [i_le, i_lt, i_eq, tI_0, tI_1, tI_2, tI_3, tI_4, tI_7, tI_8, tI_10, tI_12, tI_13, tI_14, tI_40, tI_99, tI_100, tI_1000, tI_m1000, tI_m1, tI_mil] at *; omega) | exact bI_is0 (by (try simp only [bI_d, bI_dn, strV, remI] at *); simp only [i_le, i_lt, i_eq, tI_0, tI_1, tI_2, tI_3, tI_4, tI_7, tI_8, tI_10, tI_12, tI_13, tI_14, tI_40, tI_99, tI_100, tI_1000, tI_m1000, tI_m1, tI_mil] at *; omega)) rfl
          · -- F 23
            rw [bI_dn] at h_23
            refine s_iconst (v := 1) (q := 27) d_C_isRow_26 rfl ki_1 ?_
            refine s_goto (tgt := 31) d_C_isRow_27 (by decide) ?_
            exact g_iret d_C_isRow_31 rfl rfl (by first | exact bI_is1 (by (try simp only [bI_d, bI_dn, strV, remI] at *); simp only [i_le, i_lt, i_eq, tI_0, tI_1, tI_2, tI_3, tI_4, tI_7, tI_8, tI_10, tI_12, tI_13, tI_14, tI_40, tI_99, tI_100, tI_1000, tI_m1000, tI_m1, tI_mil] at *; omega) | exact bI_is0 (by (try simp only [bI_d, bI_dn, strV, remI] at *); simp only [i_le, i_lt, i_eq, tI_0, tI_1, tI_2, tI_3, tI_4, tI_7, tI_8, tI_10, tI_12, tI_13, tI_14, tI_40, tI_99, tI_100, tI_1000, tI_m1000, tI_m1, tI_mil] at *; omega)) rfl
theorem t_C_isModulus {X : RAM} {a c : Int32} : CG l D ac b y_C_isModulus c_C_isModulus 2 (some .boolean) 0 0 [.int a, .int c] X (some (.int (bI (decide ((1 ≤ a ∧ a ≤ 100) ∧ ¬ c < 0 ∧ c < a))))) (X) := by
  refine Ct_of false (by decide) (fun h => by cases h) (Nat.le_of_ble_eq_true rfl) ?_
  show V l D ac b "SpanStore" c_C_isModulus 2 (some .boolean) false 0 0 0 0 ((some (.int (bI (decide ((1 ≤ a ∧ a ≤ 100) ∧ ¬ c < 0 ∧ c < a))))), 144, mk (X)) 0 0 0 [(0, .int a), (1, .int c)] [] 144 (mk X)
  refine s_iload_n (q := 1) d_C_isModulus_0 rfl rfl ?_
  refine s_iconst (v := 1) (q := 2) d_C_isModulus_1 rfl ki_1 ?_
  refine s_icmp_lt (tgt := 24) (q := 5) d_C_isModulus_2 (by decide) rfl (fun h_2 => ?_) (fun h_2 => ?_)
  · -- T 2
    refine s_iconst (v := 0) (q := 25) d_C_isModulus_24 rfl ki_0 ?_
    exact g_iret d_C_isModulus_25 rfl rfl (by first | exact bI_is1 (by (try simp only [bI_d, bI_dn, strV, remI] at *); simp only [i_le, i_lt, i_eq, tI_0, tI_1, tI_2, tI_3, tI_4, tI_7, tI_8, tI_10, tI_12, tI_13, tI_14, tI_40, tI_99, tI_100, tI_1000, tI_m1000, tI_m1, tI_mil] at *; omega) | exact bI_is0 (by (try simp only [bI_d, bI_dn, strV, remI] at *); simp only [i_le, i_lt, i_eq, tI_0, tI_1, tI_2, tI_3, tI_4, tI_7, tI_8, tI_10, tI_12, tI_13, tI_14, tI_40, tI_99, tI_100, tI_1000, tI_m1000, tI_m1, tI_mil] at *; omega)) rfl
  · -- F 2
    refine s_iload_n (q := 6) d_C_isModulus_5 rfl rfl ?_
    refine s_bipush (v := 100) (q := 8) d_C_isModulus_6 rfl kb_100 ?_
    refine s_icmp_gt (tgt := 24) (q := 11) d_C_isModulus_8 (by decide) rfl (fun h_8 => ?_) (fun h_8 => ?_)
    · -- T 8
      refine s_iconst (v := 0) (q := 25) d_C_isModulus_24 rfl ki_0 ?_
      exact g_iret d_C_isModulus_25 rfl rfl (by first | exact bI_is1 (by (try simp only [bI_d, bI_dn, strV, remI] at *); simp only [i_le, i_lt, i_eq, tI_0, tI_1, tI_2, tI_3, tI_4, tI_7, tI_8, tI_10, tI_12, tI_13, tI_14, tI_40, tI_99, tI_100, tI_1000, tI_m1000, tI_m1, tI_mil] at *; omega) | exact bI_is0 (by (try simp only [bI_d, bI_dn, strV, remI] at *); simp only [i_le, i_lt, i_eq, tI_0, tI_1, tI_2, tI_3, tI_4, tI_7, tI_8, tI_10, tI_12, tI_13, tI_14, tI_40, tI_99, tI_100, tI_1000, tI_m1000, tI_m1, tI_mil] at *; omega)) rfl
    · -- F 8
      refine s_iload_n (q := 12) d_C_isModulus_11 rfl rfl ?_
      refine s_if_lt (tgt := 24) (q := 15) d_C_isModulus_12 (by decide) rfl (fun h_12 => ?_) (fun h_12 => ?_)
      · -- T 12
        refine s_iconst (v := 0) (q := 25) d_C_isModulus_24 rfl ki_0 ?_
        exact g_iret d_C_isModulus_25 rfl rfl (by first | exact bI_is1 (by (try simp only [bI_d, bI_dn, strV, remI] at *); simp only [i_le, i_lt, i_eq, tI_0, tI_1, tI_2, tI_3, tI_4, tI_7, tI_8, tI_10, tI_12, tI_13, tI_14, tI_40, tI_99, tI_100, tI_1000, tI_m1000, tI_m1, tI_mil] at *; omega) | exact bI_is0 (by (try simp only [bI_d, bI_dn, strV, remI] at *); simp only [i_le, i_lt, i_eq, tI_0, tI_1, tI_2, tI_3, tI_4, tI_7, tI_8, tI_10, tI_12, tI_13, tI_14, tI_40, tI_99, tI_100, tI_1000, tI_m1000, tI_m1, tI_mil] at *; omega)) rfl
      · -- F 12
        refine s_iload_n (q := 16) d_C_isModulus_15 rfl rfl ?_
        refine s_iload_n (q := 17) d_C_isModulus_16 rfl rfl ?_
        refine s_icmp_ge (tgt := 24) (q := 20) d_C_isModulus_17 (by decide) rfl (fun h_17 => ?_) (fun h_17 => ?_)
        · -- T 17
          refine s_iconst (v := 0) (q := 25) d_C_isModulus_24 rfl ki_0 ?_
          exact g_iret d_C_isModulus_25 rfl rfl (by first | exact bI_is1 (by (try simp only [bI_d, bI_dn, strV, remI] at *); simp only [i_le, i_lt, i_eq, tI_0, tI_1, tI_2, tI_3, tI_4, tI_7, tI_8, tI_10, tI_12, tI_13, tI_14, tI_40, tI_99, tI_100, tI_1000, tI_m1000, tI_m1, tI_mil] at *; omega) | exact bI_is0 (by (try simp only [bI_d, bI_dn, strV, remI] at *); simp only [i_le, i_lt, i_eq, tI_0, tI_1, tI_2, tI_3, tI_4, tI_7, tI_8, tI_10, tI_12, tI_13, tI_14, tI_40, tI_99, tI_100, tI_1000, tI_m1000, tI_m1, tI_mil] at *; omega)) rfl
        · -- F 17
          refine s_iconst (v := 1) (q := 21) d_C_isModulus_20 rfl ki_1 ?_
          refine s_goto (tgt := 25) d_C_isModulus_21 (by decide) ?_
          exact g_iret d_C_isModulus_25 rfl rfl (by first | exact bI_is1 (by (try simp only [bI_d, bI_dn, strV, remI] at *); simp only [i_le, i_lt, i_eq, tI_0, tI_1, tI_2, tI_3, tI_4, tI_7, tI_8, tI_10, tI_12, tI_13, tI_14, tI_40, tI_99, tI_100, tI_1000, tI_m1000, tI_m1, tI_mil] at *; omega) | exact bI_is0 (by (try simp only [bI_d, bI_dn, strV, remI] at *); simp only [i_le, i_lt, i_eq, tI_0, tI_1, tI_2, tI_3, tI_4, tI_7, tI_8, tI_10, tI_12, tI_13, tI_14, tI_40, tI_99, tI_100, tI_1000, tI_m1000, tI_m1, tI_mil] at *; omega)) rfl
def remI (x y : Int32) : Int32 := x - x / y * y
theorem t_C_isCongruent {X : RAM} {k a c : Int32} : CG l D ac b y_C_isCongruent c_C_isCongruent 3 (some .boolean) 0 0 [.int k, .int a, .int c] X (some (.int (bI (decide (0 < a ∧ remI k a = c))))) (X) := by
  refine Ct_of false (by decide) (fun h => by cases h) (Nat.le_of_ble_eq_true rfl) ?_
  show V l D ac b "SpanStore" c_C_isCongruent 3 (some .boolean) false 0 0 0 0 ((some (.int (bI (decide (0 < a ∧ remI k a = c))))), 144, mk (X)) 0 0 0 [(0, .int k), (1, .int a), (2, .int c)] [] 144 (mk X)
  refine s_iload_n (q := 1) d_C_isCongruent_0 rfl rfl ?_
  refine s_if_le (tgt := 15) (q := 4) d_C_isCongruent_1 (by decide) rfl (fun h_1 => ?_) (fun h_1 => ?_)
  · -- T 1
    refine s_iconst (v := 0) (q := 16) d_C_isCongruent_15 rfl ki_0 ?_
    exact g_iret d_C_isCongruent_16 rfl rfl (by first | exact bI_is1 (by (try simp only [bI_d, bI_dn, strV, remI] at *); simp only [i_le, i_lt, i_eq, tI_0, tI_1, tI_2, tI_3, tI_4, tI_7, tI_8, tI_10, tI_12, tI_13, tI_14, tI_40, tI_99, tI_100, tI_1000, tI_m1000, tI_m1, tI_mil] at *; omega) | exact bI_is0 (by (try simp only [bI_d, bI_dn, strV, remI] at *); simp only [i_le, i_lt, i_eq, tI_0, tI_1, tI_2, tI_3, tI_4, tI_7, tI_8, tI_10, tI_12, tI_13, tI_14, tI_40, tI_99, tI_100, tI_1000, tI_m1000, tI_m1, tI_mil] at *; omega)) rfl
  · -- F 1
    refine s_iload_n (q := 5) d_C_isCongruent_4 rfl rfl ?_
    refine s_iload_n (q := 6) d_C_isCongruent_5 rfl rfl ?_
    refine s_irem (q := 7) d_C_isCongruent_6 rfl (fun z => by rw [z] at h_1; exact h_1 (by decide)) ?_
    refine s_iload_n (q := 8) d_C_isCongruent_7 rfl rfl ?_
    refine s_icmp_ne (tgt := 15) (q := 11) d_C_isCongruent_8 (by decide) rfl (fun h_8 => ?_) (fun h_8 => ?_)
    · -- T 8
      refine s_iconst (v := 0) (q := 16) d_C_isCongruent_15 rfl ki_0 ?_
      exact g_iret d_C_isCongruent_16 rfl rfl (by first | exact bI_is1 (by (try simp only [bI_d, bI_dn, strV, remI] at *); simp only [i_le, i_lt, i_eq, tI_0, tI_1, tI_2, tI_3, tI_4, tI_7, tI_8, tI_10, tI_12, tI_13, tI_14, tI_40, tI_99, tI_100, tI_1000, tI_m1000, tI_m1, tI_mil] at *; omega) | exact bI_is0 (by (try simp only [bI_d, bI_dn, strV, remI] at *); simp only [i_le, i_lt, i_eq, tI_0, tI_1, tI_2, tI_3, tI_4, tI_7, tI_8, tI_10, tI_12, tI_13, tI_14, tI_40, tI_99, tI_100, tI_1000, tI_m1000, tI_m1, tI_mil] at *; omega)) rfl
    · -- F 8
      refine s_iconst (v := 1) (q := 12) d_C_isCongruent_11 rfl ki_1 ?_
      refine s_goto (tgt := 16) d_C_isCongruent_12 (by decide) ?_
      exact g_iret d_C_isCongruent_16 rfl rfl (by first | exact bI_is1 (by (try simp only [bI_d, bI_dn, strV, remI] at *); simp only [i_le, i_lt, i_eq, tI_0, tI_1, tI_2, tI_3, tI_4, tI_7, tI_8, tI_10, tI_12, tI_13, tI_14, tI_40, tI_99, tI_100, tI_1000, tI_m1000, tI_m1, tI_mil] at *; omega) | exact bI_is0 (by (try simp only [bI_d, bI_dn, strV, remI] at *); simp only [i_le, i_lt, i_eq, tI_0, tI_1, tI_2, tI_3, tI_4, tI_7, tI_8, tI_10, tI_12, tI_13, tI_14, tI_40, tI_99, tI_100, tI_1000, tI_m1000, tI_m1, tI_mil] at *; omega)) rfl
theorem t_C_isGroupOrAll {X : RAM} {g : Int32} : CG l D ac b y_C_isGroupOrAll c_C_isGroupOrAll 1 (some .boolean) 0 0 [.int g] X (some (.int (bI (decide ((-1) ≤ g ∧ g < 4))))) (X) := by
  refine Ct_of false (by decide) (fun h => by cases h) (Nat.le_of_ble_eq_true rfl) ?_
  show V l D ac b "SpanStore" c_C_isGroupOrAll 1 (some .boolean) false 0 0 0 0 ((some (.int (bI (decide ((-1) ≤ g ∧ g < 4))))), 144, mk (X)) 0 0 0 [(0, .int g)] [] 144 (mk X)
  refine s_iload_n (q := 1) d_C_isGroupOrAll_0 rfl rfl ?_
  refine s_iconst (v := (-1)) (q := 2) d_C_isGroupOrAll_1 rfl ki_m1 ?_
  refine s_icmp_lt (tgt := 14) (q := 5) d_C_isGroupOrAll_2 (by decide) rfl (fun h_2 => ?_) (fun h_2 => ?_)
  · -- T 2
    refine s_iconst (v := 0) (q := 15) d_C_isGroupOrAll_14 rfl ki_0 ?_
    exact g_iret d_C_isGroupOrAll_15 rfl rfl (by first | exact bI_is1 (by (try simp only [bI_d, bI_dn, strV, remI] at *); simp only [i_le, i_lt, i_eq, tI_0, tI_1, tI_2, tI_3, tI_4, tI_7, tI_8, tI_10, tI_12, tI_13, tI_14, tI_40, tI_99, tI_100, tI_1000, tI_m1000, tI_m1, tI_mil] at *; omega) | exact bI_is0 (by (try simp only [bI_d, bI_dn, strV, remI] at *); simp only [i_le, i_lt, i_eq, tI_0, tI_1, tI_2, tI_3, tI_4, tI_7, tI_8, tI_10, tI_12, tI_13, tI_14, tI_40, tI_99, tI_100, tI_1000, tI_m1000, tI_m1, tI_mil] at *; omega)) rfl
  · -- F 2
    refine s_iload_n (q := 6) d_C_isGroupOrAll_5 rfl rfl ?_
    refine s_iconst (v := 4) (q := 7) d_C_isGroupOrAll_6 rfl ki_4 ?_
    refine s_icmp_ge (tgt := 14) (q := 10) d_C_isGroupOrAll_7 (by decide) rfl (fun h_7 => ?_) (fun h_7 => ?_)
    · -- T 7
      refine s_iconst (v := 0) (q := 15) d_C_isGroupOrAll_14 rfl ki_0 ?_
      exact g_iret d_C_isGroupOrAll_15 rfl rfl (by first | exact bI_is1 (by (try simp only [bI_d, bI_dn, strV, remI] at *); simp only [i_le, i_lt, i_eq, tI_0, tI_1, tI_2, tI_3, tI_4, tI_7, tI_8, tI_10, tI_12, tI_13, tI_14, tI_40, tI_99, tI_100, tI_1000, tI_m1000, tI_m1, tI_mil] at *; omega) | exact bI_is0 (by (try simp only [bI_d, bI_dn, strV, remI] at *); simp only [i_le, i_lt, i_eq, tI_0, tI_1, tI_2, tI_3, tI_4, tI_7, tI_8, tI_10, tI_12, tI_13, tI_14, tI_40, tI_99, tI_100, tI_1000, tI_m1000, tI_m1, tI_mil] at *; omega)) rfl
    · -- F 7
      refine s_iconst (v := 1) (q := 11) d_C_isGroupOrAll_10 rfl ki_1 ?_
      refine s_goto (tgt := 15) d_C_isGroupOrAll_11 (by decide) ?_
      exact g_iret d_C_isGroupOrAll_15 rfl rfl (by first | exact bI_is1 (by (try simp only [bI_d, bI_dn, strV, remI] at *); simp only [i_le, i_lt, i_eq, tI_0, tI_1, tI_2, tI_3, tI_4, tI_7, tI_8, tI_10, tI_12, tI_13, tI_14, tI_40, tI_99, tI_100, tI_1000, tI_m1000, tI_m1, tI_mil] at *; omega) | exact bI_is0 (by (try simp only [bI_d, bI_dn, strV, remI] at *); simp only [i_le, i_lt, i_eq, tI_0, tI_1, tI_2, tI_3, tI_4, tI_7, tI_8, tI_10, tI_12, tI_13, tI_14, tI_40, tI_99, tI_100, tI_1000, tI_m1000, tI_m1, tI_mil] at *; omega)) rfl
theorem t_C_isEnd {X : RAM} {e : Int32} : CG l D ac b y_C_isEnd c_C_isEnd 1 (some .boolean) 0 0 [.int e] X (some (.int (bI (decide (e = 0 ∨ e = 1))))) (X) := by
  refine Ct_of false (by decide) (fun h => by cases h) (Nat.le_of_ble_eq_true rfl) ?_
  show V l D ac b "SpanStore" c_C_isEnd 1 (some .boolean) false 0 0 0 0 ((some (.int (bI (decide (e = 0 ∨ e = 1))))), 144, mk (X)) 0 0 0 [(0, .int e)] [] 144 (mk X)
  refine s_iload_n (q := 1) d_C_isEnd_0 rfl rfl ?_
  refine s_if_eq (tgt := 9) (q := 4) d_C_isEnd_1 (by decide) rfl (fun h_1 => ?_) (fun h_1 => ?_)
  · -- T 1
    refine s_iconst (v := 1) (q := 10) d_C_isEnd_9 rfl ki_1 ?_
    refine s_goto (tgt := 14) d_C_isEnd_10 (by decide) ?_
    exact g_iret d_C_isEnd_14 rfl rfl (by first | exact bI_is1 (by (try simp only [bI_d, bI_dn, strV, remI] at *); simp only [i_le, i_lt, i_eq, tI_0, tI_1, tI_2, tI_3, tI_4, tI_7, tI_8, tI_10, tI_12, tI_13, tI_14, tI_40, tI_99, tI_100, tI_1000, tI_m1000, tI_m1, tI_mil] at *; omega) | exact bI_is0 (by (try simp only [bI_d, bI_dn, strV, remI] at *); simp only [i_le, i_lt, i_eq, tI_0, tI_1, tI_2, tI_3, tI_4, tI_7, tI_8, tI_10, tI_12, tI_13, tI_14, tI_40, tI_99, tI_100, tI_1000, tI_m1000, tI_m1, tI_mil] at *; omega)) rfl
  · -- F 1
    refine s_iload_n (q := 5) d_C_isEnd_4 rfl rfl ?_
    refine s_iconst (v := 1) (q := 6) d_C_isEnd_5 rfl ki_1 ?_
    refine s_icmp_ne (tgt := 13) (q := 9) d_C_isEnd_6 (by decide) rfl (fun h_6 => ?_) (fun h_6 => ?_)
    · -- T 6
      refine s_iconst (v := 0) (q := 14) d_C_isEnd_13 rfl ki_0 ?_
      exact g_iret d_C_isEnd_14 rfl rfl (by first | exact bI_is1 (by (try simp only [bI_d, bI_dn, strV, remI] at *); simp only [i_le, i_lt, i_eq, tI_0, tI_1, tI_2, tI_3, tI_4, tI_7, tI_8, tI_10, tI_12, tI_13, tI_14, tI_40, tI_99, tI_100, tI_1000, tI_m1000, tI_m1, tI_mil] at *; omega) | exact bI_is0 (by (try simp only [bI_d, bI_dn, strV, remI] at *); simp only [i_le, i_lt, i_eq, tI_0, tI_1, tI_2, tI_3, tI_4, tI_7, tI_8, tI_10, tI_12, tI_13, tI_14, tI_40, tI_99, tI_100, tI_1000, tI_m1000, tI_m1, tI_mil] at *; omega)) rfl
    · -- F 6
      refine s_iconst (v := 1) (q := 10) d_C_isEnd_9 rfl ki_1 ?_
      refine s_goto (tgt := 14) d_C_isEnd_10 (by decide) ?_
      exact g_iret d_C_isEnd_14 rfl rfl (by first | exact bI_is1 (by (try simp only [bI_d, bI_dn, strV, remI] at *); simp only [i_le, i_lt, i_eq, tI_0, tI_1, tI_2, tI_3, tI_4, tI_7, tI_8, tI_10, tI_12, tI_13, tI_14, tI_40, tI_99, tI_100, tI_1000, tI_m1000, tI_m1, tI_mil] at *; omega) | exact bI_is0 (by (try simp only [bI_d, bI_dn, strV, remI] at *); simp only [i_le, i_lt, i_eq, tI_0, tI_1, tI_2, tI_3, tI_4, tI_7, tI_8, tI_10, tI_12, tI_13, tI_14, tI_40, tI_99, tI_100, tI_1000, tI_m1000, tI_m1, tI_mil] at *; omega)) rfl
theorem t_C_isForm {X : RAM} {f : Int32} : CG l D ac b y_C_isForm c_C_isForm 1 (some .boolean) 0 0 [.int f] X (some (.int (bI (decide (¬ f < 0 ∧ f ≤ 2))))) (X) := by
  refine Ct_of false (by decide) (fun h => by cases h) (Nat.le_of_ble_eq_true rfl) ?_
  show V l D ac b "SpanStore" c_C_isForm 1 (some .boolean) false 0 0 0 0 ((some (.int (bI (decide (¬ f < 0 ∧ f ≤ 2))))), 144, mk (X)) 0 0 0 [(0, .int f)] [] 144 (mk X)
  refine s_iload_n (q := 1) d_C_isForm_0 rfl rfl ?_
  refine s_if_lt (tgt := 13) (q := 4) d_C_isForm_1 (by decide) rfl (fun h_1 => ?_) (fun h_1 => ?_)
  · -- T 1
    refine s_iconst (v := 0) (q := 14) d_C_isForm_13 rfl ki_0 ?_
    exact g_iret d_C_isForm_14 rfl rfl (by first | exact bI_is1 (by (try simp only [bI_d, bI_dn, strV, remI] at *); simp only [i_le, i_lt, i_eq, tI_0, tI_1, tI_2, tI_3, tI_4, tI_7, tI_8, tI_10, tI_12, tI_13, tI_14, tI_40, tI_99, tI_100, tI_1000, tI_m1000, tI_m1, tI_mil] at *; omega) | exact bI_is0 (by (try simp only [bI_d, bI_dn, strV, remI] at *); simp only [i_le, i_lt, i_eq, tI_0, tI_1, tI_2, tI_3, tI_4, tI_7, tI_8, tI_10, tI_12, tI_13, tI_14, tI_40, tI_99, tI_100, tI_1000, tI_m1000, tI_m1, tI_mil] at *; omega)) rfl
  · -- F 1
    refine s_iload_n (q := 5) d_C_isForm_4 rfl rfl ?_
    refine s_iconst (v := 2) (q := 6) d_C_isForm_5 rfl ki_2 ?_
    refine s_icmp_gt (tgt := 13) (q := 9) d_C_isForm_6 (by decide) rfl (fun h_6 => ?_) (fun h_6 => ?_)
    · -- T 6
      refine s_iconst (v := 0) (q := 14) d_C_isForm_13 rfl ki_0 ?_
      exact g_iret d_C_isForm_14 rfl rfl (by first | exact bI_is1 (by (try simp only [bI_d, bI_dn, strV, remI] at *); simp only [i_le, i_lt, i_eq, tI_0, tI_1, tI_2, tI_3, tI_4, tI_7, tI_8, tI_10, tI_12, tI_13, tI_14, tI_40, tI_99, tI_100, tI_1000, tI_m1000, tI_m1, tI_mil] at *; omega) | exact bI_is0 (by (try simp only [bI_d, bI_dn, strV, remI] at *); simp only [i_le, i_lt, i_eq, tI_0, tI_1, tI_2, tI_3, tI_4, tI_7, tI_8, tI_10, tI_12, tI_13, tI_14, tI_40, tI_99, tI_100, tI_1000, tI_m1000, tI_m1, tI_mil] at *; omega)) rfl
    · -- F 6
      refine s_iconst (v := 1) (q := 10) d_C_isForm_9 rfl ki_1 ?_
      refine s_goto (tgt := 14) d_C_isForm_10 (by decide) ?_
      exact g_iret d_C_isForm_14 rfl rfl (by first | exact bI_is1 (by (try simp only [bI_d, bI_dn, strV, remI] at *); simp only [i_le, i_lt, i_eq, tI_0, tI_1, tI_2, tI_3, tI_4, tI_7, tI_8, tI_10, tI_12, tI_13, tI_14, tI_40, tI_99, tI_100, tI_1000, tI_m1000, tI_m1, tI_mil] at *; omega) | exact bI_is0 (by (try simp only [bI_d, bI_dn, strV, remI] at *); simp only [i_le, i_lt, i_eq, tI_0, tI_1, tI_2, tI_3, tI_4, tI_7, tI_8, tI_10, tI_12, tI_13, tI_14, tI_40, tI_99, tI_100, tI_1000, tI_m1000, tI_m1, tI_mil] at *; omega)) rfl
theorem t_M_in {X : RAM} {v a c : Int32} : CG l D ac b y_M_in c_M_in 3 (some .boolean) 0 0 [.int v, .int a, .int c] X (some (.int (bI (decide (a ≤ v ∧ v ≤ c))))) (X) := by
  refine Ct_of false (by decide) (fun h => by cases h) (Nat.le_of_ble_eq_true rfl) ?_
  show V l D ac b "SpanStoreModel" c_M_in 3 (some .boolean) false 0 0 0 0 ((some (.int (bI (decide (a ≤ v ∧ v ≤ c))))), 144, mk (X)) 0 0 0 [(0, .int v), (1, .int a), (2, .int c)] [] 144 (mk X)
  refine s_iload_n (q := 1) d_M_in_0 rfl rfl ?_
  refine s_iload_n (q := 2) d_M_in_1 rfl rfl ?_
  refine s_icmp_lt (tgt := 14) (q := 5) d_M_in_2 (by decide) rfl (fun h_2 => ?_) (fun h_2 => ?_)
  · -- T 2
    refine s_iconst (v := 0) (q := 15) d_M_in_14 rfl ki_0 ?_
    exact g_iret d_M_in_15 rfl rfl (by first | exact bI_is1 (by (try simp only [bI_d, bI_dn, strV, remI] at *); simp only [i_le, i_lt, i_eq, tI_0, tI_1, tI_2, tI_3, tI_4, tI_7, tI_8, tI_10, tI_12, tI_13, tI_14, tI_40, tI_99, tI_100, tI_1000, tI_m1000, tI_m1, tI_mil] at *; omega) | exact bI_is0 (by (try simp only [bI_d, bI_dn, strV, remI] at *); simp only [i_le, i_lt, i_eq, tI_0, tI_1, tI_2, tI_3, tI_4, tI_7, tI_8, tI_10, tI_12, tI_13, tI_14, tI_40, tI_99, tI_100, tI_1000, tI_m1000, tI_m1, tI_mil] at *; omega)) rfl
  · -- F 2
    refine s_iload_n (q := 6) d_M_in_5 rfl rfl ?_
    refine s_iload_n (q := 7) d_M_in_6 rfl rfl ?_
    refine s_icmp_gt (tgt := 14) (q := 10) d_M_in_7 (by decide) rfl (fun h_7 => ?_) (fun h_7 => ?_)
    · -- T 7
      refine s_iconst (v := 0) (q := 15) d_M_in_14 rfl ki_0 ?_
      exact g_iret d_M_in_15 rfl rfl (by first | exact bI_is1 (by (try simp only [bI_d, bI_dn, strV, remI] at *); simp only [i_le, i_lt, i_eq, tI_0, tI_1, tI_2, tI_3, tI_4, tI_7, tI_8, tI_10, tI_12, tI_13, tI_14, tI_40, tI_99, tI_100, tI_1000, tI_m1000, tI_m1, tI_mil] at *; omega) | exact bI_is0 (by (try simp only [bI_d, bI_dn, strV, remI] at *); simp only [i_le, i_lt, i_eq, tI_0, tI_1, tI_2, tI_3, tI_4, tI_7, tI_8, tI_10, tI_12, tI_13, tI_14, tI_40, tI_99, tI_100, tI_1000, tI_m1000, tI_m1, tI_mil] at *; omega)) rfl
    · -- F 7
      refine s_iconst (v := 1) (q := 11) d_M_in_10 rfl ki_1 ?_
      refine s_goto (tgt := 15) d_M_in_11 (by decide) ?_
      exact g_iret d_M_in_15 rfl rfl (by first | exact bI_is1 (by (try simp only [bI_d, bI_dn, strV, remI] at *); simp only [i_le, i_lt, i_eq, tI_0, tI_1, tI_2, tI_3, tI_4, tI_7, tI_8, tI_10, tI_12, tI_13, tI_14, tI_40, tI_99, tI_100, tI_1000, tI_m1000, tI_m1, tI_mil] at *; omega) | exact bI_is0 (by (try simp only [bI_d, bI_dn, strV, remI] at *); simp only [i_le, i_lt, i_eq, tI_0, tI_1, tI_2, tI_3, tI_4, tI_7, tI_8, tI_10, tI_12, tI_13, tI_14, tI_40, tI_99, tI_100, tI_1000, tI_m1000, tI_m1, tI_mil] at *; omega)) rfl
end P06
end
section
section P07
variable {l : Launch} {D : va_G} {ac : Nat → ClassId} {b : Nat}
def cntB (p : Nat → Bool) : Nat → Nat
  | 0 => 0
  | n + 1 => cntB p n + (if p n then 1 else 0)
def anyB (p : Nat → Bool) : Nat → Bool
  | 0 => false
  | n + 1 => anyB p n || p n
theorem anyB_t {p : Nat → Bool} {n i : Nat} (hi : i < n) (h : p i = true) : anyB p n = true := by
  induction n with
  | zero => omega
  | succ n ih =>
    unfold anyB
    by_cases he : i = n
    · subst he; simp [h]
    · rw [ih (by omega)]; rfl
theorem anyB_f {p : Nat → Bool} {n : Nat} (h : ∀ i, i < n → p i = false) : anyB p n = false := by
  induction n with
  | zero => rfl
  | succ n ih =>
    unfold anyB
    rw [ih (fun i hi => h i (by omega)), h n (by omega)]
    rfl
theorem cntB_le (p : Nat → Bool) (n : Nat) : cntB p n ≤ n := by
  induction n with
  | zero => exact Nat.le_refl 0
  | succ n ih =>
    unfold cntB
    split <;> omega
theorem nI_s (n : Nat) : nI n + 1 = nI (n + 1) := nI_1 n
theorem t_B_hasRow {X : RAM} {o : Nat} {i : Int32} (hB : isB o) : CG l D ac b y_B_hasRow c_B_hasRow 2 (some .boolean) 0 0 [.ref o, .int i] X (some (.int (bI (decide (¬ i < 0 ∧ i < X o 5))))) (X) := by
  refine Ct_of false (by decide) (fun h => by cases h) (Nat.le_of_ble_eq_true rfl) ?_
  show V l D ac b "SpanStore$Block" c_B_hasRow 2 (some .boolean) false 0 0 0 0 ((some (.int (bI (decide (¬ i < 0 ∧ i < X o 5))))), 144, mk (X)) 0 0 0 [(0, .ref o), (1, .int i)] [] 144 (mk X)
  refine s_iload_n (q := 1) d_B_hasRow_0 rfl rfl ?_
  refine s_if_lt (tgt := 16) (q := 4) d_B_hasRow_1 (by decide) rfl (fun h_1 => ?_) (fun h_1 => ?_)
  · -- T 1
    refine s_iconst (v := 0) (q := 17) d_B_hasRow_16 rfl ki_0 ?_
    exact g_iret d_B_hasRow_17 rfl rfl (by first | exact bI_is1 (by (try simp only [bI_d, bI_dn, strV, remI] at *); simp only [i_le, i_lt, i_eq, tI_0, tI_1, tI_2, tI_3, tI_4, tI_7, tI_8, tI_10, tI_12, tI_13, tI_14, tI_40, tI_99, tI_100, tI_1000, tI_m1000, tI_m1, tI_mil] at *; omega) | exact bI_is0 (by (try simp only [bI_d, bI_dn, strV, remI] at *); simp only [i_le, i_lt, i_eq, tI_0, tI_1, tI_2, tI_3, tI_4, tI_7, tI_8, tI_10, tI_12, tI_13, tI_14, tI_40, tI_99, tI_100, tI_1000, tI_m1000, tI_m1, tI_mil] at *; omega)) rfl
  · -- F 1
    refine s_iload_n (q := 5) d_B_hasRow_4 rfl rfl ?_
    refine s_aload_n (q := 6) d_B_hasRow_5 rfl rfl (Or.inr ⟨_, rfl⟩) ?_
    refine g_geti (q := 9) d_B_hasRow_6 rfl fl_B_28 hB.1 rfl ?_
    refine s_icmp_ge (tgt := 16) (q := 12) d_B_hasRow_9 (by decide) rfl (fun h_9 => ?_) (fun h_9 => ?_)
    · -- T 9
      refine s_iconst (v := 0) (q := 17) d_B_hasRow_16 rfl ki_0 ?_
      exact g_iret d_B_hasRow_17 rfl rfl (by first | exact bI_is1 (by (try simp only [bI_d, bI_dn, strV, remI] at *); simp only [i_le, i_lt, i_eq, tI_0, tI_1, tI_2, tI_3, tI_4, tI_7, tI_8, tI_10, tI_12, tI_13, tI_14, tI_40, tI_99, tI_100, tI_1000, tI_m1000, tI_m1, tI_mil] at *; omega) | exact bI_is0 (by (try simp only [bI_d, bI_dn, strV, remI] at *); simp only [i_le, i_lt, i_eq, tI_0, tI_1, tI_2, tI_3, tI_4, tI_7, tI_8, tI_10, tI_12, tI_13, tI_14, tI_40, tI_99, tI_100, tI_1000, tI_m1000, tI_m1, tI_mil] at *; omega)) rfl
    · -- F 9
      refine s_iconst (v := 1) (q := 13) d_B_hasRow_12 rfl ki_1 ?_
      refine s_goto (tgt := 17) d_B_hasRow_13 (by decide) ?_
      exact g_iret d_B_hasRow_17 rfl rfl (by first | exact bI_is1 (by (try simp only [bI_d, bI_dn, strV, remI] at *); simp only [i_le, i_lt, i_eq, tI_0, tI_1, tI_2, tI_3, tI_4, tI_7, tI_8, tI_10, tI_12, tI_13, tI_14, tI_40, tI_99, tI_100, tI_1000, tI_m1000, tI_m1, tI_mil] at *; omega) | exact bI_is0 (by (try simp only [bI_d, bI_dn, strV, remI] at *); simp only [i_le, i_lt, i_eq, tI_0, tI_1, tI_2, tI_3, tI_4, tI_7, tI_8, tI_10, tI_12, tI_13, tI_14, tI_40, tI_99, tI_100, tI_1000, tI_m1000, tI_m1, tI_mil] at *; omega)) rfl
theorem hr_t {X : RAM} {o k n : Nat} (hsz : X o 5 = nI n) (hk : k < n) (hn : n ≤ 12) : ¬ bI (decide (¬ nI k < 0 ∧ nI k < X o 5)) = 0 := by
  rw [bI_dn, hsz]
  exact ⟨nI_pos (by omega), nI_lt hk (by omega)⟩
def addX (X : RAM) (o n gg : Nat) (key v : Int32) : RAM := up2 (up2 (up2 (up2 (up2 (up2 X (o + 1) n key) (o + 2) n (nI gg)) (o + 3) n v) (o + 4) n 0) (o + 5) gg (X (o + 5) gg + 1)) o 5 (nI (n + 1))
theorem t_B_addRow {X : RAM} {o n gg : Nat} {key v : Int32} (hB : isB o) (hsz : X o 5 = nI n) (hn : n < 12) (hg : gg < 4) : CG l D ac b y_B_addRow c_B_addRow 4 none 0 0 [.ref o, .int key, .int (nI gg), .int v] X (none) (addX X o n gg key v) := by
  refine Ct_of false (by decide) (fun h => by cases h) (Nat.le_of_ble_eq_true rfl) ?_
  show V l D ac b "SpanStore$Block" c_B_addRow 4 none false 0 0 0 0 ((none), 144, mk (addX X o n gg key v)) 0 0 0 [(0, .ref o), (1, .int key), (2, .int (nI gg)), (3, .int v)] [] 144 (mk X)
  refine s_aload_n (q := 1) d_B_addRow_0 rfl rfl (Or.inr ⟨_, rfl⟩) ?_
  refine g_getv (v := nI n) (q := 4) d_B_addRow_1 rfl fl_B_28 hB.1 rfl (by simp [up2, upd, hsz]) ?_
  refine s_if_lt (tgt := 85) (q := 7) d_B_addRow_4 (by decide) rfl (fun z => absurd z (nI_pos (by omega))) (fun _ => ?_)
  refine s_aload_n (q := 8) d_B_addRow_7 rfl rfl (Or.inr ⟨_, rfl⟩) ?_
  refine g_getv (v := nI n) (q := 11) d_B_addRow_8 rfl fl_B_28 hB.1 rfl (by simp [up2, upd, hsz]) ?_
  refine s_bipush (v := 12) (q := 13) d_B_addRow_11 rfl kb_12 ?_
  refine s_icmp_ge (tgt := 85) (q := 16) d_B_addRow_13 (by decide) rfl (fun z => absurd z (nI_ge (a := n) (b := 12) hn (by decide))) (fun _ => ?_)
  refine s_iload_n (q := 17) d_B_addRow_16 rfl rfl ?_
  refine s_if_lt (tgt := 85) (q := 20) d_B_addRow_17 (by decide) rfl (fun z => absurd z (nI_pos (by omega))) (fun _ => ?_)
  refine s_iload_n (q := 21) d_B_addRow_20 rfl rfl ?_
  refine s_iconst (v := 4) (q := 22) d_B_addRow_21 rfl ki_4 ?_
  refine s_icmp_ge (tgt := 85) (q := 25) d_B_addRow_22 (by decide) rfl (fun z => absurd z (nI_ge (a := gg) (b := 4) hg (by decide))) (fun _ => ?_)
  refine s_aload_n (q := 26) d_B_addRow_25 rfl rfl (Or.inr ⟨_, rfl⟩) ?_
  refine g_getr (q := 29) d_B_addRow_26 rfl fl_B_9 hB.1 rfl ?_
  refine s_aload_n (q := 30) d_B_addRow_29 rfl rfl (Or.inr ⟨_, rfl⟩) ?_
  refine g_getv (v := nI n) (q := 33) d_B_addRow_30 rfl fl_B_28 hB.1 rfl (by simp [up2, upd, hsz]) ?_
  refine s_iload_n (q := 34) d_B_addRow_33 rfl rfl ?_
  refine g_iast (q := 35) d_B_addRow_34 rfl hB.2.1 (by omega) rfl (by omega) ?_
  refine s_aload_n (q := 36) d_B_addRow_35 rfl rfl (Or.inr ⟨_, rfl⟩) ?_
  refine g_getr (q := 39) d_B_addRow_36 rfl fl_B_15 hB.1 rfl ?_
  refine s_aload_n (q := 40) d_B_addRow_39 rfl rfl (Or.inr ⟨_, rfl⟩) ?_
  refine g_getv (v := nI n) (q := 43) d_B_addRow_40 rfl fl_B_28 hB.1 rfl (by simp [up2, upd, hsz]) ?_
  refine s_iload_n (q := 44) d_B_addRow_43 rfl rfl ?_
  refine g_iast (q := 45) d_B_addRow_44 rfl hB.2.2.1 (by omega) rfl (by omega) ?_
  refine s_aload_n (q := 46) d_B_addRow_45 rfl rfl (Or.inr ⟨_, rfl⟩) ?_
  refine g_getr (q := 49) d_B_addRow_46 rfl fl_B_18 hB.1 rfl ?_
  refine s_aload_n (q := 50) d_B_addRow_49 rfl rfl (Or.inr ⟨_, rfl⟩) ?_
  refine g_getv (v := nI n) (q := 53) d_B_addRow_50 rfl fl_B_28 hB.1 rfl (by simp [up2, upd, hsz]) ?_
  refine s_iload_n (q := 54) d_B_addRow_53 rfl rfl ?_
  refine g_iast (q := 55) d_B_addRow_54 rfl hB.2.2.2.1 (by omega) rfl (by omega) ?_
  refine s_aload_n (q := 56) d_B_addRow_55 rfl rfl (Or.inr ⟨_, rfl⟩) ?_
  refine g_getr (q := 59) d_B_addRow_56 rfl fl_B_21 hB.1 rfl ?_
  refine s_aload_n (q := 60) d_B_addRow_59 rfl rfl (Or.inr ⟨_, rfl⟩) ?_
  refine g_getv (v := nI n) (q := 63) d_B_addRow_60 rfl fl_B_28 hB.1 rfl (by simp [up2, upd, hsz]) ?_
  refine s_iconst (v := 0) (q := 64) d_B_addRow_63 rfl ki_0 ?_
  refine g_zast (q := 65) d_B_addRow_64 rfl hB.2.2.2.2.1 (by omega) rfl (by omega) rfl ?_
  refine s_aload_n (q := 66) d_B_addRow_65 rfl rfl (Or.inr ⟨_, rfl⟩) ?_
  refine g_getr (q := 69) d_B_addRow_66 rfl fl_B_25 hB.1 rfl ?_
  refine s_iload_n (q := 70) d_B_addRow_69 rfl rfl ?_
  refine s_dup2 (q := 71) d_B_addRow_70 rfl rfl rfl ?_
  refine g_ialv (v := X (o + 5) gg) (q := 72) d_B_addRow_71 rfl hB.2.2.2.2.2 (by omega) rfl (by omega) (by simp [up2, upd]) ?_
  refine s_iconst (v := 1) (q := 73) d_B_addRow_72 rfl ki_1 ?_
  refine s_iadd (q := 74) d_B_addRow_73 rfl ?_
  refine g_iast (q := 75) d_B_addRow_74 rfl hB.2.2.2.2.2 (by omega) rfl (by omega) ?_
  refine s_aload_n (q := 76) d_B_addRow_75 rfl rfl (Or.inr ⟨_, rfl⟩) ?_
  refine s_dup (q := 77) d_B_addRow_76 rfl rfl ?_
  refine g_getv (v := nI n) (q := 80) d_B_addRow_77 rfl fl_B_28 hB.1 rfl (by simp [up2, upd, hsz]) ?_
  refine s_iconst (v := 1) (q := 81) d_B_addRow_80 rfl ki_1 ?_
  refine s_iadd (q := 82) d_B_addRow_81 rfl ?_
  refine g_puti (q := 85) d_B_addRow_82 rfl fl_B_28 rfl (okV_int _) hB.1 rfl ?_
  exact g_ret d_B_addRow_85 rfl (by rw [nI_s]; rfl)
theorem t_B_empty {X : RAM} {o : Nat} (hB : isB o) : CG l D ac b y_B_empty c_B_empty 1 none 1 23 [.ref o] X (none) (filA (up2 (up2 X o 5 0) o 6 0) (o + 5) 4 0) := by
  refine Ct_of false (by decide) (fun h => by cases h) (Nat.le_of_ble_eq_true rfl) ?_
  show V l D ac b "SpanStore$Block" c_B_empty 1 none false 1 23 0 0 ((none), 144, mk (filA (up2 (up2 X o 5 0) o 6 0) (o + 5) 4 0)) 0 0 0 [(0, .ref o)] [] 144 (mk X)
  refine s_aload_n (q := 1) d_B_empty_0 rfl rfl (Or.inr ⟨_, rfl⟩) ?_
  refine s_iconst (v := 0) (q := 2) d_B_empty_1 rfl ki_0 ?_
  refine g_puti (q := 5) d_B_empty_2 rfl fl_B_28 rfl (okV_int _) hB.1 rfl ?_
  refine s_aload_n (q := 6) d_B_empty_5 rfl rfl (Or.inr ⟨_, rfl⟩) ?_
  refine s_iconst (v := 0) (q := 7) d_B_empty_6 rfl ki_0 ?_
  refine g_puti (q := 10) d_B_empty_7 rfl fl_B_32 rfl (okV_int _) hB.1 rfl ?_
  refine s_aload_n (q := 11) d_B_empty_10 rfl rfl (Or.inr ⟨_, rfl⟩) ?_
  refine g_getr (q := 14) d_B_empty_11 rfl fl_B_25 hB.1 rfl ?_
  refine s_iconst (v := 0) (q := 15) d_B_empty_14 rfl ki_0 ?_
  refine g_callS (q := 18) d_B_empty_15 rfl ml_B_35 mx_J_fill ms_J_fill (t_J_fill hB.2.2.2.2.2 (by decide)) rfl rfl (Nat.le_of_ble_eq_true rfl) (by decide) ?_
  exact g_ret d_B_empty_18 rfl rfl
def eqG (X : RAM) (o k : Nat) : Nat → Bool := fun i => decide (X (o + 2) i = X (o + 2) k)
theorem lp_earlier {X : RAM} {o n k : Nat} (hB : isB o) (hsz : X o 5 = nI n) (hn : n ≤ 12) (hk : k < n) : ∀ i, i ≤ k → V l D ac b "SpanStore$Block" c_B_earlierOfItsGroup 4 (some .int) false 0 0 0 0 ((some (.int (nI (cntB (eqG X o k) k)))), 144, mk X) 0 0 4 [(0, .ref o), (1, .int (nI k)), (2, .int (nI (cntB (eqG X o k) i))), (3, .int (nI i))] [] 144 (mk X) := by
  refine nat_down ?_ (fun i hi ih => ?_)
  · skip
    refine s_iload_n (q := 5) d_B_earlierOfItsGroup_4 rfl rfl ?_
    refine s_iload_n (q := 6) d_B_earlierOfItsGroup_5 rfl rfl ?_
    refine s_icmp_ge (tgt := 41) (q := 9) d_B_earlierOfItsGroup_6 (by decide) rfl (fun _ => ?_) (fun z => absurd (nI_le (Nat.le_refl k) (by omega)) z)
    refine s_iload_n (q := 42) d_B_earlierOfItsGroup_41 rfl rfl ?_
    exact g_iret d_B_earlierOfItsGroup_42 rfl rfl rfl rfl
  · skip
    refine s_iload_n (q := 5) d_B_earlierOfItsGroup_4 rfl rfl ?_
    refine s_iload_n (q := 6) d_B_earlierOfItsGroup_5 rfl rfl ?_
    refine s_icmp_ge (tgt := 41) (q := 9) d_B_earlierOfItsGroup_6 (by decide) rfl (fun z => absurd z (nI_ge hi (by omega))) (fun _ => ?_)
    refine s_iload_n (q := 10) d_B_earlierOfItsGroup_9 rfl rfl ?_
    refine s_aload_n (q := 11) d_B_earlierOfItsGroup_10 rfl rfl (Or.inr ⟨_, rfl⟩) ?_
    refine g_getv (v := nI n) (q := 14) d_B_earlierOfItsGroup_11 rfl fl_B_28 hB.1 rfl hsz ?_
    refine s_icmp_ge (tgt := 41) (q := 17) d_B_earlierOfItsGroup_14 (by decide) rfl (fun z => absurd z (nI_ge hk (by omega))) (fun _ => ?_)
    refine s_aload_n (q := 18) d_B_earlierOfItsGroup_17 rfl rfl (Or.inr ⟨_, rfl⟩) ?_
    refine g_getr (q := 21) d_B_earlierOfItsGroup_18 rfl fl_B_15 hB.1 rfl ?_
    refine s_iload_n (q := 22) d_B_earlierOfItsGroup_21 rfl rfl ?_
    refine g_iald (q := 23) d_B_earlierOfItsGroup_22 rfl hB.2.2.1 (by omega) rfl (by omega) ?_
    refine s_aload_n (q := 24) d_B_earlierOfItsGroup_23 rfl rfl (Or.inr ⟨_, rfl⟩) ?_
    refine g_getr (q := 27) d_B_earlierOfItsGroup_24 rfl fl_B_15 hB.1 rfl ?_
    refine s_iload_n (q := 28) d_B_earlierOfItsGroup_27 rfl rfl ?_
    refine g_iald (q := 29) d_B_earlierOfItsGroup_28 rfl hB.2.2.1 (by omega) rfl (by omega) ?_
    refine s_icmp_ne (tgt := 35) (q := 32) d_B_earlierOfItsGroup_29 (by decide) rfl (fun h_29 => ?_) (fun h_29 => ?_)
    · -- T 29
      have e1 : cntB (eqG X o k) (i + 1) = cntB (eqG X o k) i := by simp [cntB, eqG, h_29]
      rw [e1] at ih
      refine s_iinc (q := 38) d_B_earlierOfItsGroup_35 rfl rfl (by first | exact inc1 _ | rfl) (by decide) ?_
      refine s_goto (tgt := 4) d_B_earlierOfItsGroup_38 (by decide) ?_
      exact s_lv (lv' := [(0, .ref o), (1, .int (nI k)), (2, .int (nI _)), (3, .int (nI (i + 1)))]) ⟨rfl, rfl, rfl, rfl, trivial⟩ ih
    · -- F 29
      have e1 : cntB (eqG X o k) (i + 1) = cntB (eqG X o k) i + 1 := by simp [cntB, eqG, h_29]
      rw [e1] at ih
      refine s_iinc (q := 35) d_B_earlierOfItsGroup_32 rfl rfl (by first | exact inc1 _ | rfl) (by decide) ?_
      refine s_iinc (q := 38) d_B_earlierOfItsGroup_35 rfl rfl (by first | exact inc1 _ | rfl) (by decide) ?_
      refine s_goto (tgt := 4) d_B_earlierOfItsGroup_38 (by decide) ?_
      exact s_lv (lv' := [(0, .ref o), (1, .int (nI k)), (2, .int (nI _)), (3, .int (nI (i + 1)))]) ⟨rfl, rfl, rfl, rfl, trivial⟩ ih
theorem t_B_earlier {X : RAM} {o n k : Nat} (hB : isB o) (hsz : X o 5 = nI n) (hn : n ≤ 12) (hk : k < n) : CG l D ac b y_B_earlierOfItsGroup c_B_earlierOfItsGroup 4 (some .int) 0 0 [.ref o, .int (nI k)] X (some (.int (nI (cntB (eqG X o k) k)))) (X) := by
  refine Ct_of false (by decide) (fun h => by cases h) (Nat.le_of_ble_eq_true rfl) ?_
  show V l D ac b "SpanStore$Block" c_B_earlierOfItsGroup 4 (some .int) false 0 0 0 0 ((some (.int (nI (cntB (eqG X o k) k)))), 144, mk (X)) 0 0 0 [(0, .ref o), (1, .int (nI k))] [] 144 (mk X)
  refine s_iconst (v := 0) (q := 1) d_B_earlierOfItsGroup_0 rfl ki_0 ?_
  refine s_istore_n (q := 2) d_B_earlierOfItsGroup_1 rfl (by decide) ?_
  refine s_iconst (v := 0) (q := 3) d_B_earlierOfItsGroup_2 rfl ki_0 ?_
  refine s_istore_n (q := 4) d_B_earlierOfItsGroup_3 rfl (by decide) ?_
  exact s_lv (lv' := [(0, .ref o), (1, .int (nI k)), (2, .int (nI (cntB (eqG X o k) 0))), (3, .int (nI 0))]) ⟨rfl, rfl, rfl, rfl, trivial⟩ (lp_earlier hB hsz hn hk 0 (Nat.zero_le k))
def kwX (X : RAM) (o k : Nat) : RAM := if X (o + 4) k = 0 then up2 (up2 X (o + 4) k 1) o 6 (X o 6 + 1) else X
theorem t_B_know {X : RAM} {o n k : Nat} (hB : isB o) (hsz : X o 5 = nI n) (hn : n ≤ 12) (hk : k < n) : CG l D ac b y_B_know c_B_know 2 none 1 21 [.ref o, .int (nI k)] X (none) (kwX X o k) := by
  refine Ct_of false (by decide) (fun h => by cases h) (Nat.le_of_ble_eq_true rfl) ?_
  show V l D ac b "SpanStore$Block" c_B_know 2 none false 1 21 0 0 ((none), 144, mk (kwX X o k)) 0 0 0 [(0, .ref o), (1, .int (nI k))] [] 144 (mk X)
  refine s_aload_n (q := 1) d_B_know_0 rfl rfl (Or.inr ⟨_, rfl⟩) ?_
  refine s_iload_n (q := 2) d_B_know_1 rfl rfl ?_
  refine g_callV (q := 5) d_B_know_2 rfl ml_B_41 mx_B_hasRow mv_B_hasRow (t_B_hasRow hB) hB.1 rfl rfl (Nat.le_of_ble_eq_true rfl) (by decide) ?_
  refine s_if_eq (tgt := 34) (q := 8) d_B_know_5 (by decide) rfl (fun z => absurd z (hr_t hsz hk hn)) (fun _ => ?_)
  refine s_aload_n (q := 9) d_B_know_8 rfl rfl (Or.inr ⟨_, rfl⟩) ?_
  refine g_getr (q := 12) d_B_know_9 rfl fl_B_21 hB.1 rfl ?_
  refine s_iload_n (q := 13) d_B_know_12 rfl rfl ?_
  refine g_zald (q := 14) d_B_know_13 rfl hB.2.2.2.2.1 (by omega) rfl (by omega) ?_
  refine s_if_ne (tgt := 34) (q := 17) d_B_know_14 (by decide) rfl (fun h_14 => ?_) (fun h_14 => ?_)
  · -- T 14
    exact g_ret d_B_know_34 rfl (by simp [kwX, *])
  · -- F 14
    refine s_aload_n (q := 18) d_B_know_17 rfl rfl (Or.inr ⟨_, rfl⟩) ?_
    refine g_getr (q := 21) d_B_know_18 rfl fl_B_21 hB.1 rfl ?_
    refine s_iload_n (q := 22) d_B_know_21 rfl rfl ?_
    refine s_iconst (v := 1) (q := 23) d_B_know_22 rfl ki_1 ?_
    refine g_zast (q := 24) d_B_know_23 rfl hB.2.2.2.2.1 (by omega) rfl (by omega) rfl ?_
    refine s_aload_n (q := 25) d_B_know_24 rfl rfl (Or.inr ⟨_, rfl⟩) ?_
    refine s_dup (q := 26) d_B_know_25 rfl rfl ?_
    refine g_getv (v := X o 6) (q := 29) d_B_know_26 rfl fl_B_32 hB.1 rfl (by simp [up2, upd]) ?_
    refine s_iconst (v := 1) (q := 30) d_B_know_29 rfl ki_1 ?_
    refine s_iadd (q := 31) d_B_know_30 rfl ?_
    refine g_puti (q := 34) d_B_know_31 rfl fl_B_32 rfl (okV_int _) hB.1 rfl ?_
    exact g_ret d_B_know_34 rfl (by simp [kwX, *])
def kwA (X : RAM) (o : Nat) : Nat → RAM
  | 0 => X
  | i + 1 => kwX (kwA X o i) o i
theorem kwX_o {X : RAM} {o k j : Nat} (h : j ≠ 6) : kwX X o k o j = X o j := by
  unfold kwX
  split
  · simp [up2, upd, h]
  · rfl
theorem kwA_o {X : RAM} {o j : Nat} (h : j ≠ 6) (i : Nat) : kwA X o i o j = X o j := by
  induction i with
  | zero => rfl
  | succ i ih => exact (kwX_o h).trans ih
theorem lp_knowAll {X : RAM} {o n : Nat} (hB : isB o) (hsz : X o 5 = nI n) (hn : n ≤ 12) : ∀ i, i ≤ n → V l D ac b "SpanStore$Block" c_B_knowAll 2 none false 2 42 0 0 (none, 144, mk (kwA X o n)) 0 0 2 [(0, .ref o), (1, .int (nI i))] [] 144 (mk (kwA X o i)) := by
  refine nat_down ?_ (fun i hi ih => ?_)
  · skip
    refine s_iload_n (q := 3) d_B_knowAll_2 rfl rfl ?_
    refine s_aload_n (q := 4) d_B_knowAll_3 rfl rfl (Or.inr ⟨_, rfl⟩) ?_
    refine g_getv (v := nI n) (q := 7) d_B_knowAll_4 rfl fl_B_28 hB.1 rfl ((kwA_o (by decide) _).trans hsz) ?_
    refine s_icmp_ge (tgt := 21) (q := 10) d_B_knowAll_7 (by decide) rfl (fun _ => ?_) (fun z => absurd (nI_le (Nat.le_refl n) (by omega)) z)
    exact g_ret d_B_knowAll_21 rfl rfl
  · skip
    refine s_iload_n (q := 3) d_B_knowAll_2 rfl rfl ?_
    refine s_aload_n (q := 4) d_B_knowAll_3 rfl rfl (Or.inr ⟨_, rfl⟩) ?_
    refine g_getv (v := nI n) (q := 7) d_B_knowAll_4 rfl fl_B_28 hB.1 rfl ((kwA_o (by decide) _).trans hsz) ?_
    refine s_icmp_ge (tgt := 21) (q := 10) d_B_knowAll_7 (by decide) rfl (fun z => absurd z (nI_ge hi (by omega))) (fun _ => ?_)
    refine s_aload_n (q := 11) d_B_knowAll_10 rfl rfl (Or.inr ⟨_, rfl⟩) ?_
    refine s_iload_n (q := 12) d_B_knowAll_11 rfl rfl ?_
    refine g_callV (q := 15) d_B_knowAll_12 rfl ml_B_45 mx_B_know mv_B_know (t_B_know hB ((kwA_o (by decide) _).trans hsz) hn hi) hB.1 rfl rfl (Nat.le_of_ble_eq_true rfl) (by decide) ?_
    refine s_iinc (q := 18) d_B_knowAll_15 rfl rfl (by first | exact inc1 _ | rfl) (by decide) ?_
    refine s_goto (tgt := 2) d_B_knowAll_18 (by decide) ?_
    exact s_lv (lv' := [(0, .ref o), (1, .int (nI (i + 1)))]) ⟨rfl, rfl, trivial⟩ ih
theorem t_B_knowAll {X : RAM} {o n : Nat} (hB : isB o) (hsz : X o 5 = nI n) (hn : n ≤ 12) : CG l D ac b y_B_knowAll c_B_knowAll 2 none 2 42 [.ref o] X (none) (kwA X o n) := by
  refine Ct_of false (by decide) (fun h => by cases h) (Nat.le_of_ble_eq_true rfl) ?_
  show V l D ac b "SpanStore$Block" c_B_knowAll 2 none false 2 42 0 0 ((none), 144, mk (kwA X o n)) 0 0 0 [(0, .ref o)] [] 144 (mk X)
  refine s_iconst (v := 0) (q := 1) d_B_knowAll_0 rfl ki_0 ?_
  refine s_istore_n (q := 2) d_B_knowAll_1 rfl (by decide) ?_
  exact s_lv (lv' := [(0, .ref o), (1, .int (nI 0))]) ⟨rfl, rfl, trivial⟩ (lp_knowAll hB hsz hn 0 (Nat.zero_le n))
def cuV (X : RAM) (o k : Nat) : Int32 := if X o 13 = 0 then (if X (o + 4) k = 0 then 1 else 0) else 1
def chX (X : RAM) (o k : Nat) (v : Int32) : RAM := up2 (kwX (up2 X o 13 (cuV X o k)) o k) (o + 3) k v
theorem t_B_changeRow {X : RAM} {o n k : Nat} {v : Int32} (hB : isB o) (hsz : X o 5 = nI n) (hn : n ≤ 12) (hk : k < n) : CG l D ac b y_B_changeRow c_B_changeRow 3 none 2 42 [.ref o, .int (nI k), .int v] X (none) (chX X o k v) := by
  refine Ct_of false (by decide) (fun h => by cases h) (Nat.le_of_ble_eq_true rfl) ?_
  show V l D ac b "SpanStore$Block" c_B_changeRow 3 none false 2 42 0 0 ((none), 144, mk (chX X o k v)) 0 0 0 [(0, .ref o), (1, .int (nI k)), (2, .int v)] [] 144 (mk X)
  refine s_aload_n (q := 1) d_B_changeRow_0 rfl rfl (Or.inr ⟨_, rfl⟩) ?_
  refine s_iload_n (q := 2) d_B_changeRow_1 rfl rfl ?_
  refine g_callV (q := 5) d_B_changeRow_2 rfl ml_B_41 mx_B_hasRow mv_B_hasRow (t_B_hasRow hB) hB.1 rfl rfl (Nat.le_of_ble_eq_true rfl) (by decide) ?_
  refine s_if_eq (tgt := 45) (q := 8) d_B_changeRow_5 (by decide) rfl (fun z => absurd z (hr_t hsz hk hn)) (fun _ => ?_)
  refine s_aload_n (q := 9) d_B_changeRow_8 rfl rfl (Or.inr ⟨_, rfl⟩) ?_
  refine s_aload_n (q := 10) d_B_changeRow_9 rfl rfl (Or.inr ⟨_, rfl⟩) ?_
  refine g_geti (q := 13) d_B_changeRow_10 rfl fl_B_49 hB.1 rfl ?_
  refine s_if_ne (tgt := 25) (q := 16) d_B_changeRow_13 (by decide) rfl (fun h_13 => ?_) (fun h_13 => ?_)
  · -- T 13
    refine s_iconst (v := 1) (q := 26) d_B_changeRow_25 rfl ki_1 ?_
    refine s_goto (tgt := 30) d_B_changeRow_26 (by decide) ?_
    refine g_puti (q := 33) d_B_changeRow_30 rfl fl_B_49 rfl (okB (by first | exact Or.inl rfl | exact Or.inr rfl | assumption)) hB.1 rfl ?_
    refine s_aload_n (q := 34) d_B_changeRow_33 rfl rfl (Or.inr ⟨_, rfl⟩) ?_
    refine s_iload_n (q := 35) d_B_changeRow_34 rfl rfl ?_
    refine g_callV (q := 38) d_B_changeRow_35 rfl ml_B_45 mx_B_know mv_B_know (t_B_know hB ((up2_same (by decide)).trans hsz) hn hk) hB.1 rfl rfl (Nat.le_of_ble_eq_true rfl) (by decide) ?_
    refine s_aload_n (q := 39) d_B_changeRow_38 rfl rfl (Or.inr ⟨_, rfl⟩) ?_
    refine g_getr (q := 42) d_B_changeRow_39 rfl fl_B_18 hB.1 rfl ?_
    refine s_iload_n (q := 43) d_B_changeRow_42 rfl rfl ?_
    refine s_iload_n (q := 44) d_B_changeRow_43 rfl rfl ?_
    refine g_iast (q := 45) d_B_changeRow_44 rfl hB.2.2.2.1 (by omega) rfl (by omega) ?_
    exact g_ret d_B_changeRow_45 rfl (by simp [chX, cuV, *])
  · -- F 13
    refine s_aload_n (q := 17) d_B_changeRow_16 rfl rfl (Or.inr ⟨_, rfl⟩) ?_
    refine g_getr (q := 20) d_B_changeRow_17 rfl fl_B_21 hB.1 rfl ?_
    refine s_iload_n (q := 21) d_B_changeRow_20 rfl rfl ?_
    refine g_zald (q := 22) d_B_changeRow_21 rfl hB.2.2.2.2.1 (by omega) rfl (by omega) ?_
    refine s_if_ne (tgt := 29) (q := 25) d_B_changeRow_22 (by decide) rfl (fun h_22 => ?_) (fun h_22 => ?_)
    · -- T 22
      refine s_iconst (v := 0) (q := 30) d_B_changeRow_29 rfl ki_0 ?_
      refine g_puti (q := 33) d_B_changeRow_30 rfl fl_B_49 rfl (okB (by first | exact Or.inl rfl | exact Or.inr rfl | assumption)) hB.1 rfl ?_
      refine s_aload_n (q := 34) d_B_changeRow_33 rfl rfl (Or.inr ⟨_, rfl⟩) ?_
      refine s_iload_n (q := 35) d_B_changeRow_34 rfl rfl ?_
      refine g_callV (q := 38) d_B_changeRow_35 rfl ml_B_45 mx_B_know mv_B_know (t_B_know hB ((up2_same (by decide)).trans hsz) hn hk) hB.1 rfl rfl (Nat.le_of_ble_eq_true rfl) (by decide) ?_
      refine s_aload_n (q := 39) d_B_changeRow_38 rfl rfl (Or.inr ⟨_, rfl⟩) ?_
      refine g_getr (q := 42) d_B_changeRow_39 rfl fl_B_18 hB.1 rfl ?_
      refine s_iload_n (q := 43) d_B_changeRow_42 rfl rfl ?_
      refine s_iload_n (q := 44) d_B_changeRow_43 rfl rfl ?_
      refine g_iast (q := 45) d_B_changeRow_44 rfl hB.2.2.2.1 (by omega) rfl (by omega) ?_
      exact g_ret d_B_changeRow_45 rfl (by simp [chX, cuV, *])
    · -- F 22
      refine s_iconst (v := 1) (q := 26) d_B_changeRow_25 rfl ki_1 ?_
      refine s_goto (tgt := 30) d_B_changeRow_26 (by decide) ?_
      refine g_puti (q := 33) d_B_changeRow_30 rfl fl_B_49 rfl (okB (by first | exact Or.inl rfl | exact Or.inr rfl | assumption)) hB.1 rfl ?_
      refine s_aload_n (q := 34) d_B_changeRow_33 rfl rfl (Or.inr ⟨_, rfl⟩) ?_
      refine s_iload_n (q := 35) d_B_changeRow_34 rfl rfl ?_
      refine g_callV (q := 38) d_B_changeRow_35 rfl ml_B_45 mx_B_know mv_B_know (t_B_know hB ((up2_same (by decide)).trans hsz) hn hk) hB.1 rfl rfl (Nat.le_of_ble_eq_true rfl) (by decide) ?_
      refine s_aload_n (q := 39) d_B_changeRow_38 rfl rfl (Or.inr ⟨_, rfl⟩) ?_
      refine g_getr (q := 42) d_B_changeRow_39 rfl fl_B_18 hB.1 rfl ?_
      refine s_iload_n (q := 43) d_B_changeRow_42 rfl rfl ?_
      refine s_iload_n (q := 44) d_B_changeRow_43 rfl rfl ?_
      refine g_iast (q := 45) d_B_changeRow_44 rfl hB.2.2.2.1 (by omega) rfl (by omega) ?_
      exact g_ret d_B_changeRow_45 rfl (by simp [chX, cuV, *])
def kvP (X : RAM) (o : Nat) (v : Int32) : Nat → Bool := fun i => decide (¬ X (o + 4) i = 0 ∧ X (o + 3) i = v)
theorem lp_isKV {X : RAM} {o n : Nat} {v : Int32} (hB : isB o) (hsz : X o 5 = nI n) (hn : n ≤ 12) : ∀ i, i ≤ n → (∀ j, j < i → kvP X o v j = false) → V l D ac b "SpanStore$Block" c_B_isKnownValue 3 (some .boolean) false 0 0 0 0 ((some (.int (bI (anyB (kvP X o v) n)))), 144, mk X) 0 0 2 [(0, .ref o), (1, .int v), (2, .int (nI i))] [] 144 (mk X) := by
  refine nat_down ?_ (fun i hi ih => ?_)
  · skip
    intro hp
    refine s_iload_n (q := 3) d_B_isKnownValue_2 rfl rfl ?_
    refine s_aload_n (q := 4) d_B_isKnownValue_3 rfl rfl (Or.inr ⟨_, rfl⟩) ?_
    refine g_getv (v := nI n) (q := 7) d_B_isKnownValue_4 rfl fl_B_28 hB.1 rfl hsz ?_
    refine s_icmp_ge (tgt := 37) (q := 10) d_B_isKnownValue_7 (by decide) rfl (fun _ => ?_) (fun z => absurd (nI_le (Nat.le_refl n) (by omega)) z)
    refine s_iconst (v := 0) (q := 38) d_B_isKnownValue_37 rfl ki_0 ?_
    exact g_iret d_B_isKnownValue_38 rfl rfl (bI_f (anyB_f hp)).symm rfl
  · skip
    intro hp
    refine s_iload_n (q := 3) d_B_isKnownValue_2 rfl rfl ?_
    refine s_aload_n (q := 4) d_B_isKnownValue_3 rfl rfl (Or.inr ⟨_, rfl⟩) ?_
    refine g_getv (v := nI n) (q := 7) d_B_isKnownValue_4 rfl fl_B_28 hB.1 rfl hsz ?_
    refine s_icmp_ge (tgt := 37) (q := 10) d_B_isKnownValue_7 (by decide) rfl (fun z => absurd z (nI_ge hi (by omega))) (fun _ => ?_)
    refine s_aload_n (q := 11) d_B_isKnownValue_10 rfl rfl (Or.inr ⟨_, rfl⟩) ?_
    refine g_getr (q := 14) d_B_isKnownValue_11 rfl fl_B_21 hB.1 rfl ?_
    refine s_iload_n (q := 15) d_B_isKnownValue_14 rfl rfl ?_
    refine g_zald (q := 16) d_B_isKnownValue_15 rfl hB.2.2.2.2.1 (by omega) rfl (by omega) ?_
    refine s_if_eq (tgt := 31) (q := 19) d_B_isKnownValue_16 (by decide) rfl (fun h_16 => ?_) (fun h_16 => ?_)
    · -- T 16
      refine s_iinc (q := 34) d_B_isKnownValue_31 rfl rfl (by first | exact inc1 _ | rfl) (by decide) ?_
      refine s_goto (tgt := 2) d_B_isKnownValue_34 (by decide) ?_
      refine s_lv (lv' := [(0, .ref o), (1, .int v), (2, .int (nI (i + 1)))]) ⟨rfl, rfl, rfl, trivial⟩ (ih (fun j hj => ?_))
      by_cases hji : j = i
      · subst hji; simp [kvP, *]
      · exact hp j (by omega)
    · -- F 16
      refine s_aload_n (q := 20) d_B_isKnownValue_19 rfl rfl (Or.inr ⟨_, rfl⟩) ?_
      refine g_getr (q := 23) d_B_isKnownValue_20 rfl fl_B_18 hB.1 rfl ?_
      refine s_iload_n (q := 24) d_B_isKnownValue_23 rfl rfl ?_
      refine g_iald (q := 25) d_B_isKnownValue_24 rfl hB.2.2.2.1 (by omega) rfl (by omega) ?_
      refine s_iload_n (q := 26) d_B_isKnownValue_25 rfl rfl ?_
      refine s_icmp_ne (tgt := 31) (q := 29) d_B_isKnownValue_26 (by decide) rfl (fun h_26 => ?_) (fun h_26 => ?_)
      · -- T 26
        refine s_iinc (q := 34) d_B_isKnownValue_31 rfl rfl (by first | exact inc1 _ | rfl) (by decide) ?_
        refine s_goto (tgt := 2) d_B_isKnownValue_34 (by decide) ?_
        refine s_lv (lv' := [(0, .ref o), (1, .int v), (2, .int (nI (i + 1)))]) ⟨rfl, rfl, rfl, trivial⟩ (ih (fun j hj => ?_))
        by_cases hji : j = i
        · subst hji; simp [kvP, *]
        · exact hp j (by omega)
      · -- F 26
        refine s_iconst (v := 1) (q := 30) d_B_isKnownValue_29 rfl ki_1 ?_
        exact g_iret d_B_isKnownValue_30 rfl rfl (bI_t (anyB_t hi (by simp [kvP, *]))).symm rfl
theorem t_B_isKV {X : RAM} {o n : Nat} {v : Int32} (hB : isB o) (hsz : X o 5 = nI n) (hn : n ≤ 12) : CG l D ac b y_B_isKnownValue c_B_isKnownValue 3 (some .boolean) 0 0 [.ref o, .int v] X (some (.int (bI (anyB (kvP X o v) n)))) (X) := by
  refine Ct_of false (by decide) (fun h => by cases h) (Nat.le_of_ble_eq_true rfl) ?_
  show V l D ac b "SpanStore$Block" c_B_isKnownValue 3 (some .boolean) false 0 0 0 0 ((some (.int (bI (anyB (kvP X o v) n)))), 144, mk (X)) 0 0 0 [(0, .ref o), (1, .int v)] [] 144 (mk X)
  refine s_iconst (v := 0) (q := 1) d_B_isKnownValue_0 rfl ki_0 ?_
  refine s_istore_n (q := 2) d_B_isKnownValue_1 rfl (by decide) ?_
  exact s_lv (lv' := [(0, .ref o), (1, .int v), (2, .int (nI 0))]) ⟨rfl, rfl, rfl, trivial⟩ (lp_isKV hB hsz hn 0 (Nat.zero_le n) (fun j hj => by omega))
def minF (f : Nat → Int32) : Nat → Int32
  | 0 => f 0
  | i + 1 => if f (i + 1) < minF f i then f (i + 1) else minF f i
def maxF (f : Nat → Int32) : Nat → Int32
  | 0 => f 0
  | i + 1 => if maxF f i < f (i + 1) then f (i + 1) else maxF f i
def lstV (X : RAM) (o n : Nat) : Int32 := if n = 0 then 0 else minF (X (o + 3)) (n - 1)
def grtV (X : RAM) (o n : Nat) : Int32 := if n = 0 then 0 else maxF (X (o + 3)) (n - 1)
def lowV (X : RAM) (o n : Nat) (a : Int32) : Int32 := if lstV X o n < -a then -a else lstV X o n
def higV (X : RAM) (o n : Nat) (a : Int32) : Int32 := if a < grtV X o n then a else grtV X o n
def meX (X : RAM) (o n : Nat) : RAM := up2 (up2 X o 7 (lstV X o n)) o 8 (grtV X o n)
def msX (X : RAM) (o n : Nat) (a : Int32) : RAM := up2 (up2 (up2 (up2 (up2 (meX X o n) o 9 (lowV X o n a)) o 10 (higV X o n a)) o 11 (bI (anyB (kvP X o (lstV X o n)) n))) o 12 (bI (anyB (kvP X o (grtV X o n)) n))) o 13 0
theorem meX_s {X : RAM} {o i : Nat} : up2 (up2 (meX X o (i + 1)) o 7 (lstV X o (i + 2))) o 8 (grtV X o (i + 2)) = meX X o (i + 2) := by
  unfold meX
  funext j
  by_cases h : j = o
  · subst h
    funext k
    simp only [up2, if_true, upd]
    by_cases h8 : k = 8
    · simp [h8]
    · by_cases h7 : k = 7
      · simp [h7]
      · simp [h8, h7]
  · simp [up2, h]
theorem lp_measure {X : RAM} {o n : Nat} {a : Int32} (hB : isB o) (hsz : X o 5 = nI n) (hn : n ≤ 12) (h0 : 0 < n) : ∀ i, i ≤ n - 1 → V l D ac b "SpanStore$Block" c_B_measure 3 none false 1 22 0 0 (none, 144, mk (msX X o n a)) 0 0 31 [(0, .ref o), (1, .int a), (2, .int (nI (i + 1)))] [] 144 (mk (meX X o (i + 1))) := by
  refine nat_down ?_ (fun i hi ih => ?_)
  · rw [show n - 1 + 1 = n by omega]
    refine s_iload_n (q := 32) d_B_measure_31 rfl rfl ?_
    refine s_aload_n (q := 33) d_B_measure_32 rfl rfl (Or.inr ⟨_, rfl⟩) ?_
    refine g_getv (v := nI n) (q := 36) d_B_measure_33 rfl fl_B_28 hB.1 rfl (by simp [meX, up2, upd, hsz]) ?_
    refine s_icmp_ge (tgt := 79) (q := 39) d_B_measure_36 (by decide) rfl (fun _ => ?_) (fun z => absurd (nI_le (Nat.le_refl n) (by omega)) z)
    refine s_aload_n (q := 80) d_B_measure_79 rfl rfl (Or.inr ⟨_, rfl⟩) ?_
    refine s_aload_n (q := 81) d_B_measure_80 rfl rfl (Or.inr ⟨_, rfl⟩) ?_
    refine g_getv (v := lstV X o n) (q := 84) d_B_measure_81 rfl fl_B_53 hB.1 rfl (by simp [meX, up2, upd]) ?_
    refine s_iload_n (q := 85) d_B_measure_84 rfl rfl ?_
    refine s_ineg (q := 86) d_B_measure_85 rfl ?_
    refine s_max (q := 89) d_B_measure_86 rfl ml_B_65 (Nat.le_of_ble_eq_true rfl) (by decide) (by decide) ⟨Nat.le_refl _, Nat.le_refl _⟩ ?_
    refine g_puti (q := 92) d_B_measure_89 rfl fl_B_68 rfl (okV_int _) hB.1 rfl ?_
    refine s_aload_n (q := 93) d_B_measure_92 rfl rfl (Or.inr ⟨_, rfl⟩) ?_
    refine s_aload_n (q := 94) d_B_measure_93 rfl rfl (Or.inr ⟨_, rfl⟩) ?_
    refine g_getv (v := grtV X o n) (q := 97) d_B_measure_94 rfl fl_B_56 hB.1 rfl (by simp [meX, up2, upd]) ?_
    refine s_iload_n (q := 98) d_B_measure_97 rfl rfl ?_
    refine s_min (q := 101) d_B_measure_98 rfl ml_B_59 (Nat.le_of_ble_eq_true rfl) (by decide) (by decide) ⟨Nat.le_refl _, Nat.le_refl _⟩ ?_
    refine g_puti (q := 104) d_B_measure_101 rfl fl_B_71 rfl (okV_int _) hB.1 rfl ?_
    refine s_aload_n (q := 105) d_B_measure_104 rfl rfl (Or.inr ⟨_, rfl⟩) ?_
    refine s_aload_n (q := 106) d_B_measure_105 rfl rfl (Or.inr ⟨_, rfl⟩) ?_
    refine s_aload_n (q := 107) d_B_measure_106 rfl rfl (Or.inr ⟨_, rfl⟩) ?_
    refine g_getv (v := lstV X o n) (q := 110) d_B_measure_107 rfl fl_B_53 hB.1 rfl (by simp [meX, up2, upd]) ?_
    refine g_callV (q := 113) d_B_measure_110 rfl ml_B_74 mx_B_isKnownValue mv_B_isKnownValue (t_B_isKV hB (n := n) (by simp [meX, up2, upd, hsz]) hn) hB.1 rfl rfl (Nat.le_of_ble_eq_true rfl) (by decide) ?_
    rw [show kvP _ o (lstV X o n) = kvP X o (lstV X o n) from by funext i; simp [kvP, meX, up2]]
    refine g_puti (q := 116) d_B_measure_113 rfl fl_B_77 rfl (okBI _) hB.1 rfl ?_
    refine s_aload_n (q := 117) d_B_measure_116 rfl rfl (Or.inr ⟨_, rfl⟩) ?_
    refine s_aload_n (q := 118) d_B_measure_117 rfl rfl (Or.inr ⟨_, rfl⟩) ?_
    refine s_aload_n (q := 119) d_B_measure_118 rfl rfl (Or.inr ⟨_, rfl⟩) ?_
    refine g_getv (v := grtV X o n) (q := 122) d_B_measure_119 rfl fl_B_56 hB.1 rfl (by simp [meX, up2, upd]) ?_
    refine g_callV (q := 125) d_B_measure_122 rfl ml_B_74 mx_B_isKnownValue mv_B_isKnownValue (t_B_isKV hB (n := n) (by simp [meX, up2, upd, hsz]) hn) hB.1 rfl rfl (Nat.le_of_ble_eq_true rfl) (by decide) ?_
    rw [show kvP _ o (grtV X o n) = kvP X o (grtV X o n) from by funext i; simp [kvP, meX, up2]]
    refine g_puti (q := 128) d_B_measure_125 rfl fl_B_80 rfl (okBI _) hB.1 rfl ?_
    refine s_aload_n (q := 129) d_B_measure_128 rfl rfl (Or.inr ⟨_, rfl⟩) ?_
    refine s_iconst (v := 0) (q := 130) d_B_measure_129 rfl ki_0 ?_
    refine g_puti (q := 133) d_B_measure_130 rfl fl_B_49 rfl (okB (by first | exact Or.inl rfl | exact Or.inr rfl | assumption)) hB.1 rfl ?_
    exact g_ret d_B_measure_133 rfl rfl
  · skip
    refine s_iload_n (q := 32) d_B_measure_31 rfl rfl ?_
    refine s_aload_n (q := 33) d_B_measure_32 rfl rfl (Or.inr ⟨_, rfl⟩) ?_
    refine g_getv (v := nI n) (q := 36) d_B_measure_33 rfl fl_B_28 hB.1 rfl (by simp [meX, up2, upd, hsz]) ?_
    refine s_icmp_ge (tgt := 79) (q := 39) d_B_measure_36 (by decide) rfl (fun z => absurd z (nI_ge (by omega) (by omega))) (fun _ => ?_)
    refine s_aload_n (q := 40) d_B_measure_39 rfl rfl (Or.inr ⟨_, rfl⟩) ?_
    refine s_aload_n (q := 41) d_B_measure_40 rfl rfl (Or.inr ⟨_, rfl⟩) ?_
    refine g_getv (v := lstV X o (i + 1)) (q := 44) d_B_measure_41 rfl fl_B_53 hB.1 rfl (by simp [meX, up2, upd]) ?_
    refine s_aload_n (q := 45) d_B_measure_44 rfl rfl (Or.inr ⟨_, rfl⟩) ?_
    refine g_getr (q := 48) d_B_measure_45 rfl fl_B_18 hB.1 rfl ?_
    refine s_iload_n (q := 49) d_B_measure_48 rfl rfl ?_
    refine g_ialv (v := X (o + 3) (i + 1)) (q := 50) d_B_measure_49 rfl hB.2.2.2.1 (by omega) rfl (by omega) (by simp [meX, up2]) ?_
    refine s_min (q := 53) d_B_measure_50 rfl ml_B_59 (Nat.le_of_ble_eq_true rfl) (by decide) (by decide) ⟨Nat.le_refl _, Nat.le_refl _⟩ ?_
    rw [show (if X (o + 3) (i + 1) < lstV X o (i + 1) then X (o + 3) (i + 1) else lstV X o (i + 1)) = lstV X o (i + 2) from by simp [lstV, minF]]
    refine g_puti (q := 56) d_B_measure_53 rfl fl_B_53 rfl (okV_int _) hB.1 rfl ?_
    refine s_aload_n (q := 57) d_B_measure_56 rfl rfl (Or.inr ⟨_, rfl⟩) ?_
    refine s_aload_n (q := 58) d_B_measure_57 rfl rfl (Or.inr ⟨_, rfl⟩) ?_
    refine g_getv (v := grtV X o (i + 1)) (q := 61) d_B_measure_58 rfl fl_B_56 hB.1 rfl (by simp [meX, up2, upd]) ?_
    refine s_aload_n (q := 62) d_B_measure_61 rfl rfl (Or.inr ⟨_, rfl⟩) ?_
    refine g_getr (q := 65) d_B_measure_62 rfl fl_B_18 hB.1 rfl ?_
    refine s_iload_n (q := 66) d_B_measure_65 rfl rfl ?_
    refine g_ialv (v := X (o + 3) (i + 1)) (q := 67) d_B_measure_66 rfl hB.2.2.2.1 (by omega) rfl (by omega) (by simp [meX, up2]) ?_
    refine s_max (q := 70) d_B_measure_67 rfl ml_B_65 (Nat.le_of_ble_eq_true rfl) (by decide) (by decide) ⟨Nat.le_refl _, Nat.le_refl _⟩ ?_
    rw [show (if grtV X o (i + 1) < X (o + 3) (i + 1) then X (o + 3) (i + 1) else grtV X o (i + 1)) = grtV X o (i + 2) from by simp [grtV, maxF]]
    refine g_puti (q := 73) d_B_measure_70 rfl fl_B_56 rfl (okV_int _) hB.1 rfl ?_
    rw [meX_s]
    refine s_iinc (q := 76) d_B_measure_73 rfl rfl (by first | exact inc1 _ | rfl) (by decide) ?_
    refine s_goto (tgt := 31) d_B_measure_76 (by decide) ?_
    exact s_lv (lv' := [(0, .ref o), (1, .int a), (2, .int (nI ((i + 1) + 1)))]) ⟨rfl, rfl, rfl, trivial⟩ ih
theorem t_B_measure {X : RAM} {o n : Nat} {a : Int32} (hB : isB o) (hsz : X o 5 = nI n) (hn : n ≤ 12) : CG l D ac b y_B_measure c_B_measure 3 none 1 22 [.ref o, .int a] X none (msX X o n a) := by
  refine Ct_of false (by decide) (fun h => by cases h) (Nat.le_of_ble_eq_true rfl) ?_
  show V l D ac b "SpanStore$Block" c_B_measure 3 none false 1 22 0 0 (none, 144, mk (msX X o n a)) 0 0 0 [(0, .ref o), (1, .int a)] [] 144 (mk X)
  by_cases h0 : 0 < n
  · skip
    refine s_aload_n (q := 1) d_B_measure_0 rfl rfl (Or.inr ⟨_, rfl⟩) ?_
    refine s_aload_n (q := 2) d_B_measure_1 rfl rfl (Or.inr ⟨_, rfl⟩) ?_
    refine g_getv (v := nI n) (q := 5) d_B_measure_2 rfl fl_B_28 hB.1 rfl hsz ?_
    refine s_if_le (tgt := 17) (q := 8) d_B_measure_5 (by decide) rfl (fun z => absurd z (nI_nle h0 (by omega))) (fun _ => ?_)
    refine s_aload_n (q := 9) d_B_measure_8 rfl rfl (Or.inr ⟨_, rfl⟩) ?_
    refine g_getr (q := 12) d_B_measure_9 rfl fl_B_18 hB.1 rfl ?_
    refine s_iconst (v := 0) (q := 13) d_B_measure_12 rfl ki_0 ?_
    refine g_ialv (v := lstV X o 1) (q := 14) d_B_measure_13 rfl hB.2.2.2.1 (by omega) (rfl : (0 : Int32) = nI 0) (by decide) rfl ?_
    refine s_goto (tgt := 18) d_B_measure_14 (by decide) ?_
    refine g_puti (q := 21) d_B_measure_18 rfl fl_B_53 rfl (okV_int _) hB.1 rfl ?_
    refine s_aload_n (q := 22) d_B_measure_21 rfl rfl (Or.inr ⟨_, rfl⟩) ?_
    refine s_aload_n (q := 23) d_B_measure_22 rfl rfl (Or.inr ⟨_, rfl⟩) ?_
    refine g_getv (v := grtV X o 1) (q := 26) d_B_measure_23 rfl fl_B_53 hB.1 rfl (by simp [up2, upd, lstV, grtV, minF, maxF]) ?_
    refine g_puti (q := 29) d_B_measure_26 rfl fl_B_56 rfl (okV_int _) hB.1 rfl ?_
    refine s_iconst (v := 1) (q := 30) d_B_measure_29 rfl ki_1 ?_
    refine s_istore_n (q := 31) d_B_measure_30 rfl (by decide) ?_
    exact s_lv (lv' := [(0, .ref o), (1, .int a), (2, .int (nI (0 + 1)))]) ⟨rfl, rfl, rfl, trivial⟩ (lp_measure (l := l) (D := D) (ac := ac) (b := b) (a := a) hB hsz hn h0 0 (by omega))
  · have hz : n = 0 := by omega
    subst hz
    refine s_aload_n (q := 1) d_B_measure_0 rfl rfl (Or.inr ⟨_, rfl⟩) ?_
    refine s_aload_n (q := 2) d_B_measure_1 rfl rfl (Or.inr ⟨_, rfl⟩) ?_
    refine g_getv (v := 0) (q := 5) d_B_measure_2 rfl fl_B_28 hB.1 rfl hsz ?_
    refine s_if_le (tgt := 17) (q := 8) d_B_measure_5 (by decide) rfl (fun _ => ?_) (fun z => absurd (by decide) z)
    refine s_iconst (v := 0) (q := 18) d_B_measure_17 rfl ki_0 ?_
    refine g_puti (q := 21) d_B_measure_18 rfl fl_B_53 rfl (okV_int _) hB.1 rfl ?_
    refine s_aload_n (q := 22) d_B_measure_21 rfl rfl (Or.inr ⟨_, rfl⟩) ?_
    refine s_aload_n (q := 23) d_B_measure_22 rfl rfl (Or.inr ⟨_, rfl⟩) ?_
    refine g_getv (v := 0) (q := 26) d_B_measure_23 rfl fl_B_53 hB.1 rfl (by simp [up2, upd]) ?_
    refine g_puti (q := 29) d_B_measure_26 rfl fl_B_56 rfl (okV_int _) hB.1 rfl ?_
    refine s_iconst (v := 1) (q := 30) d_B_measure_29 rfl ki_1 ?_
    refine s_istore_n (q := 31) d_B_measure_30 rfl (by decide) ?_
    refine s_iload_n (q := 32) d_B_measure_31 rfl rfl ?_
    refine s_aload_n (q := 33) d_B_measure_32 rfl rfl (Or.inr ⟨_, rfl⟩) ?_
    refine g_getv (v := 0) (q := 36) d_B_measure_33 rfl fl_B_28 hB.1 rfl (by simp [up2, upd, hsz]; rfl) ?_
    refine s_icmp_ge (tgt := 79) (q := 39) d_B_measure_36 (by decide) rfl (fun _ => ?_) (fun z => absurd (by decide) z)
    refine s_aload_n (q := 80) d_B_measure_79 rfl rfl (Or.inr ⟨_, rfl⟩) ?_
    refine s_aload_n (q := 81) d_B_measure_80 rfl rfl (Or.inr ⟨_, rfl⟩) ?_
    refine g_getv (v := lstV X o 0) (q := 84) d_B_measure_81 rfl fl_B_53 hB.1 rfl (by simp [up2, upd, lstV]) ?_
    refine s_iload_n (q := 85) d_B_measure_84 rfl rfl ?_
    refine s_ineg (q := 86) d_B_measure_85 rfl ?_
    refine s_max (q := 89) d_B_measure_86 rfl ml_B_65 (Nat.le_of_ble_eq_true rfl) (by decide) (by decide) ⟨Nat.le_refl _, Nat.le_refl _⟩ ?_
    refine g_puti (q := 92) d_B_measure_89 rfl fl_B_68 rfl (okV_int _) hB.1 rfl ?_
    refine s_aload_n (q := 93) d_B_measure_92 rfl rfl (Or.inr ⟨_, rfl⟩) ?_
    refine s_aload_n (q := 94) d_B_measure_93 rfl rfl (Or.inr ⟨_, rfl⟩) ?_
    refine g_getv (v := grtV X o 0) (q := 97) d_B_measure_94 rfl fl_B_56 hB.1 rfl (by simp [up2, upd, grtV]) ?_
    refine s_iload_n (q := 98) d_B_measure_97 rfl rfl ?_
    refine s_min (q := 101) d_B_measure_98 rfl ml_B_59 (Nat.le_of_ble_eq_true rfl) (by decide) (by decide) ⟨Nat.le_refl _, Nat.le_refl _⟩ ?_
    refine g_puti (q := 104) d_B_measure_101 rfl fl_B_71 rfl (okV_int _) hB.1 rfl ?_
    refine s_aload_n (q := 105) d_B_measure_104 rfl rfl (Or.inr ⟨_, rfl⟩) ?_
    refine s_aload_n (q := 106) d_B_measure_105 rfl rfl (Or.inr ⟨_, rfl⟩) ?_
    refine s_aload_n (q := 107) d_B_measure_106 rfl rfl (Or.inr ⟨_, rfl⟩) ?_
    refine g_getv (v := lstV X o 0) (q := 110) d_B_measure_107 rfl fl_B_53 hB.1 rfl (by simp [up2, upd, lstV]) ?_
    refine g_callV (q := 113) d_B_measure_110 rfl ml_B_74 mx_B_isKnownValue mv_B_isKnownValue (t_B_isKV hB (n := 0) (by simp [up2, upd, hsz]) hn) hB.1 rfl rfl (Nat.le_of_ble_eq_true rfl) (by decide) ?_
    refine g_puti (q := 116) d_B_measure_113 rfl fl_B_77 rfl (okBI _) hB.1 rfl ?_
    refine s_aload_n (q := 117) d_B_measure_116 rfl rfl (Or.inr ⟨_, rfl⟩) ?_
    refine s_aload_n (q := 118) d_B_measure_117 rfl rfl (Or.inr ⟨_, rfl⟩) ?_
    refine s_aload_n (q := 119) d_B_measure_118 rfl rfl (Or.inr ⟨_, rfl⟩) ?_
    refine g_getv (v := grtV X o 0) (q := 122) d_B_measure_119 rfl fl_B_56 hB.1 rfl (by simp [up2, upd, grtV]) ?_
    refine g_callV (q := 125) d_B_measure_122 rfl ml_B_74 mx_B_isKnownValue mv_B_isKnownValue (t_B_isKV hB (n := 0) (by simp [up2, upd, hsz]) hn) hB.1 rfl rfl (Nat.le_of_ble_eq_true rfl) (by decide) ?_
    refine g_puti (q := 128) d_B_measure_125 rfl fl_B_80 rfl (okBI _) hB.1 rfl ?_
    refine s_aload_n (q := 129) d_B_measure_128 rfl rfl (Or.inr ⟨_, rfl⟩) ?_
    refine s_iconst (v := 0) (q := 130) d_B_measure_129 rfl ki_0 ?_
    refine g_puti (q := 133) d_B_measure_130 rfl fl_B_49 rfl (okB (by first | exact Or.inl rfl | exact Or.inr rfl | assumption)) hB.1 rfl ?_
    exact g_ret d_B_measure_133 rfl rfl
end P07
end
section
section P08
variable {l : Launch} {D : va_G} {ac : Nat → ClassId} {b : Nat}
theorem t_B_isHalf {X : RAM} {o : Nat} (hB : isB o) : CG l D ac b y_B_isHalf c_B_isHalf 1 (some .boolean) 0 0 [.ref o] X (some (.int (bI (decide (X o 6 < X o 5))))) (X) := by
  refine Ct_of false (by decide) (fun h => by cases h) (Nat.le_of_ble_eq_true rfl) ?_
  show V l D ac b "SpanStore$Block" c_B_isHalf 1 (some .boolean) false 0 0 0 0 ((some (.int (bI (decide (X o 6 < X o 5))))), 144, mk (X)) 0 0 0 [(0, .ref o)] [] 144 (mk X)
  refine s_aload_n (q := 1) d_B_isHalf_0 rfl rfl (Or.inr ⟨_, rfl⟩) ?_
  refine g_geti (q := 4) d_B_isHalf_1 rfl fl_B_32 hB.1 rfl ?_
  refine s_aload_n (q := 5) d_B_isHalf_4 rfl rfl (Or.inr ⟨_, rfl⟩) ?_
  refine g_geti (q := 8) d_B_isHalf_5 rfl fl_B_28 hB.1 rfl ?_
  refine s_icmp_ge (tgt := 15) (q := 11) d_B_isHalf_8 (by decide) rfl (fun h_8 => ?_) (fun h_8 => ?_)
  · -- T 8
    refine s_iconst (v := 0) (q := 16) d_B_isHalf_15 rfl ki_0 ?_
    exact g_iret d_B_isHalf_16 rfl rfl (by first | exact bI_is1 (by (try simp only [bI_d, bI_dn, strV, remI] at *); simp only [i_le, i_lt, i_eq, tI_0, tI_1, tI_2, tI_3, tI_4, tI_7, tI_8, tI_10, tI_12, tI_13, tI_14, tI_40, tI_99, tI_100, tI_1000, tI_m1000, tI_m1, tI_mil] at *; omega) | exact bI_is0 (by (try simp only [bI_d, bI_dn, strV, remI] at *); simp only [i_le, i_lt, i_eq, tI_0, tI_1, tI_2, tI_3, tI_4, tI_7, tI_8, tI_10, tI_12, tI_13, tI_14, tI_40, tI_99, tI_100, tI_1000, tI_m1000, tI_m1, tI_mil] at *; omega)) rfl
  · -- F 8
    refine s_iconst (v := 1) (q := 12) d_B_isHalf_11 rfl ki_1 ?_
    refine s_goto (tgt := 16) d_B_isHalf_12 (by decide) ?_
    exact g_iret d_B_isHalf_16 rfl rfl (by first | exact bI_is1 (by (try simp only [bI_d, bI_dn, strV, remI] at *); simp only [i_le, i_lt, i_eq, tI_0, tI_1, tI_2, tI_3, tI_4, tI_7, tI_8, tI_10, tI_12, tI_13, tI_14, tI_40, tI_99, tI_100, tI_1000, tI_m1000, tI_m1, tI_mil] at *; omega) | exact bI_is0 (by (try simp only [bI_d, bI_dn, strV, remI] at *); simp only [i_le, i_lt, i_eq, tI_0, tI_1, tI_2, tI_3, tI_4, tI_7, tI_8, tI_10, tI_12, tI_13, tI_14, tI_40, tI_99, tI_100, tI_1000, tI_m1000, tI_m1, tI_mil] at *; omega)) rfl
def olP (X : RAM) (o : Nat) : Bool := decide (X o 6 < X o 5 ∧ X o 11 = 0 ∧ X o 13 = 0 ∧ X o 9 = X o 7)
def ogP (X : RAM) (o : Nat) : Bool := decide (X o 6 < X o 5 ∧ X o 12 = 0 ∧ X o 13 = 0 ∧ X o 10 = X o 8)
theorem t_B_owesLeast {X : RAM} {o : Nat} (hB : isB o) : CG l D ac b y_B_owesLeast c_B_owesLeast 1 (some .boolean) 1 20 [.ref o] X (some (.int (bI (olP X o)))) (X) := by
  refine Ct_of false (by decide) (fun h => by cases h) (Nat.le_of_ble_eq_true rfl) ?_
  show V l D ac b "SpanStore$Block" c_B_owesLeast 1 (some .boolean) false 1 20 0 0 ((some (.int (bI (olP X o)))), 144, mk (X)) 0 0 0 [(0, .ref o)] [] 144 (mk X)
  refine s_aload_n (q := 1) d_B_owesLeast_0 rfl rfl (Or.inr ⟨_, rfl⟩) ?_
  refine g_callV (q := 4) d_B_owesLeast_1 rfl ml_B_83 mx_B_isHalf mv_B_isHalf (t_B_isHalf hB) hB.1 rfl rfl (Nat.le_of_ble_eq_true rfl) (by decide) ?_
  refine s_if_eq (tgt := 36) (q := 7) d_B_owesLeast_4 (by decide) rfl (fun h_4 => ?_) (fun h_4 => ?_)
  · -- T 4
    rw [bI_d] at h_4
    refine s_iconst (v := 0) (q := 37) d_B_owesLeast_36 rfl ki_0 ?_
    exact g_iret d_B_owesLeast_37 rfl rfl (by first | exact bI_is1 (by simp_all) | exact bI_is0 (fun z => h_4 z.1) | exact bI_is0 (by simp_all)) rfl
  · -- F 4
    rw [bI_dn] at h_4
    refine s_aload_n (q := 8) d_B_owesLeast_7 rfl rfl (Or.inr ⟨_, rfl⟩) ?_
    refine g_geti (q := 11) d_B_owesLeast_8 rfl fl_B_77 hB.1 rfl ?_
    refine s_if_ne (tgt := 36) (q := 14) d_B_owesLeast_11 (by decide) rfl (fun h_11 => ?_) (fun h_11 => ?_)
    · -- T 11
      refine s_iconst (v := 0) (q := 37) d_B_owesLeast_36 rfl ki_0 ?_
      exact g_iret d_B_owesLeast_37 rfl rfl (by first | exact bI_is1 (by simp_all) | exact bI_is0 (fun z => h_4 z.1) | exact bI_is0 (by simp_all)) rfl
    · -- F 11
      refine s_aload_n (q := 15) d_B_owesLeast_14 rfl rfl (Or.inr ⟨_, rfl⟩) ?_
      refine g_geti (q := 18) d_B_owesLeast_15 rfl fl_B_49 hB.1 rfl ?_
      refine s_if_ne (tgt := 36) (q := 21) d_B_owesLeast_18 (by decide) rfl (fun h_18 => ?_) (fun h_18 => ?_)
      · -- T 18
        refine s_iconst (v := 0) (q := 37) d_B_owesLeast_36 rfl ki_0 ?_
        exact g_iret d_B_owesLeast_37 rfl rfl (by first | exact bI_is1 (by simp_all) | exact bI_is0 (fun z => h_4 z.1) | exact bI_is0 (by simp_all)) rfl
      · -- F 18
        refine s_aload_n (q := 22) d_B_owesLeast_21 rfl rfl (Or.inr ⟨_, rfl⟩) ?_
        refine g_geti (q := 25) d_B_owesLeast_22 rfl fl_B_68 hB.1 rfl ?_
        refine s_aload_n (q := 26) d_B_owesLeast_25 rfl rfl (Or.inr ⟨_, rfl⟩) ?_
        refine g_geti (q := 29) d_B_owesLeast_26 rfl fl_B_53 hB.1 rfl ?_
        refine s_icmp_ne (tgt := 36) (q := 32) d_B_owesLeast_29 (by decide) rfl (fun h_29 => ?_) (fun h_29 => ?_)
        · -- T 29
          refine s_iconst (v := 0) (q := 37) d_B_owesLeast_36 rfl ki_0 ?_
          exact g_iret d_B_owesLeast_37 rfl rfl (by first | exact bI_is1 (by simp_all) | exact bI_is0 (fun z => h_4 z.1) | exact bI_is0 (by simp_all)) rfl
        · -- F 29
          refine s_iconst (v := 1) (q := 33) d_B_owesLeast_32 rfl ki_1 ?_
          refine s_goto (tgt := 37) d_B_owesLeast_33 (by decide) ?_
          exact g_iret d_B_owesLeast_37 rfl rfl (by first | exact bI_is1 (by simp_all) | exact bI_is0 (fun z => h_4 z.1) | exact bI_is0 (by simp_all)) rfl
theorem t_B_owesGreatest {X : RAM} {o : Nat} (hB : isB o) : CG l D ac b y_B_owesGreatest c_B_owesGreatest 1 (some .boolean) 1 20 [.ref o] X (some (.int (bI (ogP X o)))) (X) := by
  refine Ct_of false (by decide) (fun h => by cases h) (Nat.le_of_ble_eq_true rfl) ?_
  show V l D ac b "SpanStore$Block" c_B_owesGreatest 1 (some .boolean) false 1 20 0 0 ((some (.int (bI (ogP X o)))), 144, mk (X)) 0 0 0 [(0, .ref o)] [] 144 (mk X)
  refine s_aload_n (q := 1) d_B_owesGreatest_0 rfl rfl (Or.inr ⟨_, rfl⟩) ?_
  refine g_callV (q := 4) d_B_owesGreatest_1 rfl ml_B_83 mx_B_isHalf mv_B_isHalf (t_B_isHalf hB) hB.1 rfl rfl (Nat.le_of_ble_eq_true rfl) (by decide) ?_
  refine s_if_eq (tgt := 36) (q := 7) d_B_owesGreatest_4 (by decide) rfl (fun h_4 => ?_) (fun h_4 => ?_)
  · -- T 4
    rw [bI_d] at h_4
    refine s_iconst (v := 0) (q := 37) d_B_owesGreatest_36 rfl ki_0 ?_
    exact g_iret d_B_owesGreatest_37 rfl rfl (by first | exact bI_is1 (by simp_all) | exact bI_is0 (fun z => h_4 z.1) | exact bI_is0 (by simp_all)) rfl
  · -- F 4
    rw [bI_dn] at h_4
    refine s_aload_n (q := 8) d_B_owesGreatest_7 rfl rfl (Or.inr ⟨_, rfl⟩) ?_
    refine g_geti (q := 11) d_B_owesGreatest_8 rfl fl_B_80 hB.1 rfl ?_
    refine s_if_ne (tgt := 36) (q := 14) d_B_owesGreatest_11 (by decide) rfl (fun h_11 => ?_) (fun h_11 => ?_)
    · -- T 11
      refine s_iconst (v := 0) (q := 37) d_B_owesGreatest_36 rfl ki_0 ?_
      exact g_iret d_B_owesGreatest_37 rfl rfl (by first | exact bI_is1 (by simp_all) | exact bI_is0 (fun z => h_4 z.1) | exact bI_is0 (by simp_all)) rfl
    · -- F 11
      refine s_aload_n (q := 15) d_B_owesGreatest_14 rfl rfl (Or.inr ⟨_, rfl⟩) ?_
      refine g_geti (q := 18) d_B_owesGreatest_15 rfl fl_B_49 hB.1 rfl ?_
      refine s_if_ne (tgt := 36) (q := 21) d_B_owesGreatest_18 (by decide) rfl (fun h_18 => ?_) (fun h_18 => ?_)
      · -- T 18
        refine s_iconst (v := 0) (q := 37) d_B_owesGreatest_36 rfl ki_0 ?_
        exact g_iret d_B_owesGreatest_37 rfl rfl (by first | exact bI_is1 (by simp_all) | exact bI_is0 (fun z => h_4 z.1) | exact bI_is0 (by simp_all)) rfl
      · -- F 18
        refine s_aload_n (q := 22) d_B_owesGreatest_21 rfl rfl (Or.inr ⟨_, rfl⟩) ?_
        refine g_geti (q := 25) d_B_owesGreatest_22 rfl fl_B_71 hB.1 rfl ?_
        refine s_aload_n (q := 26) d_B_owesGreatest_25 rfl rfl (Or.inr ⟨_, rfl⟩) ?_
        refine g_geti (q := 29) d_B_owesGreatest_26 rfl fl_B_56 hB.1 rfl ?_
        refine s_icmp_ne (tgt := 36) (q := 32) d_B_owesGreatest_29 (by decide) rfl (fun h_29 => ?_) (fun h_29 => ?_)
        · -- T 29
          refine s_iconst (v := 0) (q := 37) d_B_owesGreatest_36 rfl ki_0 ?_
          exact g_iret d_B_owesGreatest_37 rfl rfl (by first | exact bI_is1 (by simp_all) | exact bI_is0 (fun z => h_4 z.1) | exact bI_is0 (by simp_all)) rfl
        · -- F 29
          refine s_iconst (v := 1) (q := 33) d_B_owesGreatest_32 rfl ki_1 ?_
          refine s_goto (tgt := 37) d_B_owesGreatest_33 (by decide) ?_
          exact g_iret d_B_owesGreatest_37 rfl rfl (by first | exact bI_is1 (by simp_all) | exact bI_is0 (fun z => h_4 z.1) | exact bI_is0 (by simp_all)) rfl
theorem t_B_groupSize {X : RAM} {o gg : Nat} (hB : isB o) (hg : gg < 4) : CG l D ac b y_B_groupSize c_B_groupSize 2 (some .int) 0 0 [.ref o, .int (nI gg)] X (some (.int (X (o + 5) gg))) (X) := by
  refine Ct_of false (by decide) (fun h => by cases h) (Nat.le_of_ble_eq_true rfl) ?_
  show V l D ac b "SpanStore$Block" c_B_groupSize 2 (some .int) false 0 0 0 0 ((some (.int (X (o + 5) gg))), 144, mk (X)) 0 0 0 [(0, .ref o), (1, .int (nI gg))] [] 144 (mk X)
  refine s_iload_n (q := 1) d_B_groupSize_0 rfl rfl ?_
  refine s_if_lt (tgt := 18) (q := 4) d_B_groupSize_1 (by decide) rfl (fun z => absurd z (nI_pos (by omega))) (fun _ => ?_)
  refine s_iload_n (q := 5) d_B_groupSize_4 rfl rfl ?_
  refine s_iconst (v := 4) (q := 6) d_B_groupSize_5 rfl ki_4 ?_
  refine s_icmp_ge (tgt := 18) (q := 9) d_B_groupSize_6 (by decide) rfl (fun z => absurd z (nI_ge (a := gg) (b := 4) hg (by decide))) (fun _ => ?_)
  refine s_aload_n (q := 10) d_B_groupSize_9 rfl rfl (Or.inr ⟨_, rfl⟩) ?_
  refine g_getr (q := 13) d_B_groupSize_10 rfl fl_B_25 hB.1 rfl ?_
  refine s_iload_n (q := 14) d_B_groupSize_13 rfl rfl ?_
  refine g_iald (q := 15) d_B_groupSize_14 rfl hB.2.2.2.2.2 (by omega) rfl (by omega) ?_
  refine s_goto (tgt := 19) d_B_groupSize_15 (by decide) ?_
  exact g_iret d_B_groupSize_19 rfl rfl rfl rfl
def hsV (X : RAM) (o : Nat) (h e : Int32) : Int32 := if e = 0 then h * X o 9 + (if h = X o 5 - X o 6 ∧ ogP X o = true then X o 10 - X o 9 else 0) else h * X o 10 - (if h = X o 5 - X o 6 ∧ olP X o = true then X o 10 - X o 9 else 0)
theorem t_B_hiddenSumEnd {X : RAM} {o : Nat} {h e : Int32} (hB : isB o) : CG l D ac b y_B_hiddenSumEnd c_B_hiddenSumEnd 4 (some .int) 2 40 [.ref o, .int h, .int e] X (some (.int (hsV X o h e))) (X) := by
  refine Ct_of false (by decide) (fun h => by cases h) (Nat.le_of_ble_eq_true rfl) ?_
  show V l D ac b "SpanStore$Block" c_B_hiddenSumEnd 4 (some .int) false 2 40 0 0 ((some (.int (hsV X o h e))), 144, mk (X)) 0 0 0 [(0, .ref o), (1, .int h), (2, .int e)] [] 144 (mk X)
  refine s_iload_n (q := 1) d_B_hiddenSumEnd_0 rfl rfl ?_
  refine s_aload_n (q := 2) d_B_hiddenSumEnd_1 rfl rfl (Or.inr ⟨_, rfl⟩) ?_
  refine g_geti (q := 5) d_B_hiddenSumEnd_2 rfl fl_B_28 hB.1 rfl ?_
  refine s_aload_n (q := 6) d_B_hiddenSumEnd_5 rfl rfl (Or.inr ⟨_, rfl⟩) ?_
  refine g_geti (q := 9) d_B_hiddenSumEnd_6 rfl fl_B_32 hB.1 rfl ?_
  refine s_isub (q := 10) d_B_hiddenSumEnd_9 rfl ?_
  refine s_icmp_ne (tgt := 17) (q := 13) d_B_hiddenSumEnd_10 (by decide) rfl (fun h_10 => ?_) (fun h_10 => ?_)
  · -- T 10
    refine s_iconst (v := 0) (q := 18) d_B_hiddenSumEnd_17 rfl ki_0 ?_
    refine s_istore_n (q := 19) d_B_hiddenSumEnd_18 rfl (by decide) ?_
    refine s_iload_n (q := 20) d_B_hiddenSumEnd_19 rfl rfl ?_
    refine s_if_ne (tgt := 55) (q := 23) d_B_hiddenSumEnd_20 (by decide) rfl (fun h_20 => ?_) (fun h_20 => ?_)
    · -- T 20
      refine s_iload_n (q := 56) d_B_hiddenSumEnd_55 rfl rfl ?_
      refine s_aload_n (q := 57) d_B_hiddenSumEnd_56 rfl rfl (Or.inr ⟨_, rfl⟩) ?_
      refine g_geti (q := 60) d_B_hiddenSumEnd_57 rfl fl_B_71 hB.1 rfl ?_
      refine s_imul (q := 61) d_B_hiddenSumEnd_60 rfl ?_
      refine s_iload_n (q := 62) d_B_hiddenSumEnd_61 rfl rfl ?_
      refine s_if_eq (tgt := 84) (q := 65) d_B_hiddenSumEnd_62 (by decide) rfl (fun _ => ?_) (fun z => absurd (by decide) z)
      refine s_iconst (v := 0) (q := 85) d_B_hiddenSumEnd_84 rfl ki_0 ?_
      refine s_isub (q := 86) d_B_hiddenSumEnd_85 rfl ?_
      exact g_iret d_B_hiddenSumEnd_86 rfl rfl (by simp_all [hsV]) rfl
    · -- F 20
      refine s_iload_n (q := 24) d_B_hiddenSumEnd_23 rfl rfl ?_
      refine s_aload_n (q := 25) d_B_hiddenSumEnd_24 rfl rfl (Or.inr ⟨_, rfl⟩) ?_
      refine g_geti (q := 28) d_B_hiddenSumEnd_25 rfl fl_B_68 hB.1 rfl ?_
      refine s_imul (q := 29) d_B_hiddenSumEnd_28 rfl ?_
      refine s_iload_n (q := 30) d_B_hiddenSumEnd_29 rfl rfl ?_
      refine s_if_eq (tgt := 52) (q := 33) d_B_hiddenSumEnd_30 (by decide) rfl (fun _ => ?_) (fun z => absurd (by decide) z)
      refine s_iconst (v := 0) (q := 53) d_B_hiddenSumEnd_52 rfl ki_0 ?_
      refine s_iadd (q := 54) d_B_hiddenSumEnd_53 rfl ?_
      exact g_iret d_B_hiddenSumEnd_54 rfl rfl (by simp_all [hsV]) rfl
  · -- F 10
    refine s_iconst (v := 1) (q := 14) d_B_hiddenSumEnd_13 rfl ki_1 ?_
    refine s_goto (tgt := 18) d_B_hiddenSumEnd_14 (by decide) ?_
    refine s_istore_n (q := 19) d_B_hiddenSumEnd_18 rfl (by decide) ?_
    refine s_iload_n (q := 20) d_B_hiddenSumEnd_19 rfl rfl ?_
    refine s_if_ne (tgt := 55) (q := 23) d_B_hiddenSumEnd_20 (by decide) rfl (fun h_20 => ?_) (fun h_20 => ?_)
    · -- T 20
      refine s_iload_n (q := 56) d_B_hiddenSumEnd_55 rfl rfl ?_
      refine s_aload_n (q := 57) d_B_hiddenSumEnd_56 rfl rfl (Or.inr ⟨_, rfl⟩) ?_
      refine g_geti (q := 60) d_B_hiddenSumEnd_57 rfl fl_B_71 hB.1 rfl ?_
      refine s_imul (q := 61) d_B_hiddenSumEnd_60 rfl ?_
      refine s_iload_n (q := 62) d_B_hiddenSumEnd_61 rfl rfl ?_
      refine s_if_eq (tgt := 84) (q := 65) d_B_hiddenSumEnd_62 (by decide) rfl (fun z => absurd z (by decide)) (fun _ => ?_)
      refine s_aload_n (q := 66) d_B_hiddenSumEnd_65 rfl rfl (Or.inr ⟨_, rfl⟩) ?_
      refine g_callV (q := 69) d_B_hiddenSumEnd_66 rfl ml_B_87 mx_B_owesLeast mv_B_owesLeast (t_B_owesLeast hB) hB.1 rfl rfl (Nat.le_of_ble_eq_true rfl) (by decide) ?_
      refine s_if_eq (tgt := 84) (q := 72) d_B_hiddenSumEnd_69 (by decide) rfl (fun h_69 => ?_) (fun h_69 => ?_)
      · -- T 69
        rw [bI_0] at h_69
        refine s_iconst (v := 0) (q := 85) d_B_hiddenSumEnd_84 rfl ki_0 ?_
        refine s_isub (q := 86) d_B_hiddenSumEnd_85 rfl ?_
        exact g_iret d_B_hiddenSumEnd_86 rfl rfl (by simp_all [hsV]) rfl
      · -- F 69
        rw [bI_n0] at h_69
        refine s_aload_n (q := 73) d_B_hiddenSumEnd_72 rfl rfl (Or.inr ⟨_, rfl⟩) ?_
        refine g_geti (q := 76) d_B_hiddenSumEnd_73 rfl fl_B_71 hB.1 rfl ?_
        refine s_aload_n (q := 77) d_B_hiddenSumEnd_76 rfl rfl (Or.inr ⟨_, rfl⟩) ?_
        refine g_geti (q := 80) d_B_hiddenSumEnd_77 rfl fl_B_68 hB.1 rfl ?_
        refine s_isub (q := 81) d_B_hiddenSumEnd_80 rfl ?_
        refine s_goto (tgt := 85) d_B_hiddenSumEnd_81 (by decide) ?_
        refine s_isub (q := 86) d_B_hiddenSumEnd_85 rfl ?_
        exact g_iret d_B_hiddenSumEnd_86 rfl rfl (by simp_all [hsV]) rfl
    · -- F 20
      refine s_iload_n (q := 24) d_B_hiddenSumEnd_23 rfl rfl ?_
      refine s_aload_n (q := 25) d_B_hiddenSumEnd_24 rfl rfl (Or.inr ⟨_, rfl⟩) ?_
      refine g_geti (q := 28) d_B_hiddenSumEnd_25 rfl fl_B_68 hB.1 rfl ?_
      refine s_imul (q := 29) d_B_hiddenSumEnd_28 rfl ?_
      refine s_iload_n (q := 30) d_B_hiddenSumEnd_29 rfl rfl ?_
      refine s_if_eq (tgt := 52) (q := 33) d_B_hiddenSumEnd_30 (by decide) rfl (fun z => absurd z (by decide)) (fun _ => ?_)
      refine s_aload_n (q := 34) d_B_hiddenSumEnd_33 rfl rfl (Or.inr ⟨_, rfl⟩) ?_
      refine g_callV (q := 37) d_B_hiddenSumEnd_34 rfl ml_B_90 mx_B_owesGreatest mv_B_owesGreatest (t_B_owesGreatest hB) hB.1 rfl rfl (Nat.le_of_ble_eq_true rfl) (by decide) ?_
      refine s_if_eq (tgt := 52) (q := 40) d_B_hiddenSumEnd_37 (by decide) rfl (fun h_37 => ?_) (fun h_37 => ?_)
      · -- T 37
        rw [bI_0] at h_37
        refine s_iconst (v := 0) (q := 53) d_B_hiddenSumEnd_52 rfl ki_0 ?_
        refine s_iadd (q := 54) d_B_hiddenSumEnd_53 rfl ?_
        exact g_iret d_B_hiddenSumEnd_54 rfl rfl (by simp_all [hsV]) rfl
      · -- F 37
        rw [bI_n0] at h_37
        refine s_aload_n (q := 41) d_B_hiddenSumEnd_40 rfl rfl (Or.inr ⟨_, rfl⟩) ?_
        refine g_geti (q := 44) d_B_hiddenSumEnd_41 rfl fl_B_71 hB.1 rfl ?_
        refine s_aload_n (q := 45) d_B_hiddenSumEnd_44 rfl rfl (Or.inr ⟨_, rfl⟩) ?_
        refine g_geti (q := 48) d_B_hiddenSumEnd_45 rfl fl_B_68 hB.1 rfl ?_
        refine s_isub (q := 49) d_B_hiddenSumEnd_48 rfl ?_
        refine s_goto (tgt := 53) d_B_hiddenSumEnd_49 (by decide) ?_
        refine s_iadd (q := 54) d_B_hiddenSumEnd_53 rfl ?_
        exact g_iret d_B_hiddenSumEnd_54 rfl rfl (by simp_all [hsV]) rfl
def seP (X : RAM) (o : Nat) (g : Int32) (i : Nat) : Bool := decide (g = -1 ∨ X (o + 2) i = g)
def knP (X : RAM) (o : Nat) (i : Nat) : Bool := decide (¬ X (o + 4) i = 0)
def sumK (X : RAM) (o : Nat) (g : Int32) : Nat → Int32
  | 0 => 0
  | i + 1 => if (seP X o g i && knP X o i) = true then sumK X o g i + X (o + 3) i else sumK X o g i
def hidP (X : RAM) (o : Nat) (g : Int32) (i : Nat) : Bool := seP X o g i && !knP X o i
def sumV (X : RAM) (o n : Nat) (g e : Int32) : Int64 := if cntB (hidP X o g) n = 0 then (sumK X o g n).toInt64 else (sumK X o g n + hsV X o (nI (cntB (hidP X o g) n)) e).toInt64
theorem lp_sumEnd {X : RAM} {o n : Nat} {g e : Int32} (hB : isB o) (hsz : X o 5 = nI n) (hn : n ≤ 12) : ∀ i, i ≤ n → V l D ac b "SpanStore$Block" c_B_sumEnd 6 (some .long) false 3 63 0 0 ((some (.long (sumV X o n g e))), 144, mk X) 0 0 8 [(0, .ref o), (1, .int g), (2, .int e), (3, .int (sumK X o g i)), (4, .int (nI (cntB (hidP X o g) i))), (5, .int (nI i))] [] 144 (mk X) := by
  refine nat_down ?_ (fun i hi ih => ?_)
  · skip
    refine s_iload (q := 10) d_B_sumEnd_8 rfl rfl ?_
    refine s_aload_n (q := 11) d_B_sumEnd_10 rfl rfl (Or.inr ⟨_, rfl⟩) ?_
    refine g_getv (v := nI n) (q := 14) d_B_sumEnd_11 rfl fl_B_28 hB.1 rfl hsz ?_
    refine s_icmp_ge (tgt := 65) (q := 17) d_B_sumEnd_14 (by decide) rfl (fun _ => ?_) (fun z => absurd (nI_le (Nat.le_refl n) (by omega)) z)
    refine s_iload (q := 67) d_B_sumEnd_65 rfl rfl ?_
    refine s_if_ne (tgt := 75) (q := 70) d_B_sumEnd_67 (by decide) rfl (fun h_67 => ?_) (fun h_67 => ?_)
    · -- T 67
      have h67 : ¬ cntB (hidP X o g) n = 0 := fun z => h_67 (by rw [z]; rfl)
      refine s_iload_n (q := 76) d_B_sumEnd_75 rfl rfl ?_
      refine s_aload_n (q := 77) d_B_sumEnd_76 rfl rfl (Or.inr ⟨_, rfl⟩) ?_
      refine s_iload (q := 79) d_B_sumEnd_77 rfl rfl ?_
      refine s_iload_n (q := 80) d_B_sumEnd_79 rfl rfl ?_
      refine g_callV (q := 83) d_B_sumEnd_80 rfl ml_B_97 mx_B_hiddenSumEnd mv_B_hiddenSumEnd (t_B_hiddenSumEnd hB) hB.1 rfl rfl (Nat.le_of_ble_eq_true rfl) (by decide) ?_
      refine s_iadd (q := 84) d_B_sumEnd_83 rfl ?_
      refine s_i2l (q := 85) d_B_sumEnd_84 rfl ?_
      exact g_lret d_B_sumEnd_85 rfl (by simp [sumV, h67]) rfl
    · -- F 67
      have h67 : cntB (hidP X o g) n = 0 := (nI_eq (a := cntB (hidP X o g) n) (b := 0) (by have := cntB_le (hidP X o g) n; omega) (by decide)).mp h_67
      refine s_iload_n (q := 71) d_B_sumEnd_70 rfl rfl ?_
      refine s_i2l (q := 72) d_B_sumEnd_71 rfl ?_
      refine s_goto (tgt := 85) d_B_sumEnd_72 (by decide) ?_
      exact g_lret d_B_sumEnd_85 rfl (by simp [sumV, h67]) rfl
  · skip
    refine s_iload (q := 10) d_B_sumEnd_8 rfl rfl ?_
    refine s_aload_n (q := 11) d_B_sumEnd_10 rfl rfl (Or.inr ⟨_, rfl⟩) ?_
    refine g_getv (v := nI n) (q := 14) d_B_sumEnd_11 rfl fl_B_28 hB.1 rfl hsz ?_
    refine s_icmp_ge (tgt := 65) (q := 17) d_B_sumEnd_14 (by decide) rfl (fun z => absurd z (nI_ge hi (by omega))) (fun _ => ?_)
    refine s_iload_n (q := 18) d_B_sumEnd_17 rfl rfl ?_
    refine s_iconst (v := (-1)) (q := 19) d_B_sumEnd_18 rfl ki_m1 ?_
    refine s_icmp_eq (tgt := 33) (q := 22) d_B_sumEnd_19 (by decide) rfl (fun h_19 => ?_) (fun h_19 => ?_)
    · -- T 19
      refine s_aload_n (q := 34) d_B_sumEnd_33 rfl rfl (Or.inr ⟨_, rfl⟩) ?_
      refine g_getr (q := 37) d_B_sumEnd_34 rfl fl_B_21 hB.1 rfl ?_
      refine s_iload (q := 39) d_B_sumEnd_37 rfl rfl ?_
      refine g_zald (q := 40) d_B_sumEnd_39 rfl hB.2.2.2.2.1 (by omega) rfl (by omega) ?_
      refine s_if_eq (tgt := 56) (q := 43) d_B_sumEnd_40 (by decide) rfl (fun h_40 => ?_) (fun h_40 => ?_)
      · -- T 40
        rw [show sumK X o g (i + 1) = sumK X o g i from by simp [sumK, seP, knP, *], show cntB (hidP X o g) (i + 1) = cntB (hidP X o g) i + 1 from by simp [cntB, hidP, seP, knP, *]] at ih
        refine s_iinc (q := 59) d_B_sumEnd_56 rfl rfl (by first | exact inc1 _ | rfl) (by decide) ?_
        refine s_iinc (q := 62) d_B_sumEnd_59 rfl rfl (by first | exact inc1 _ | rfl) (by decide) ?_
        refine s_goto (tgt := 8) d_B_sumEnd_62 (by decide) ?_
        exact s_lv (lv' := [(0, .ref o), (1, .int g), (2, .int e), (3, .int _), (4, .int (nI _)), (5, .int (nI (i + 1)))]) ⟨rfl, rfl, rfl, rfl, rfl, rfl, trivial⟩ ih
      · -- F 40
        rw [show sumK X o g (i + 1) = sumK X o g i + X (o + 3) i from by simp [sumK, seP, knP, *], show cntB (hidP X o g) (i + 1) = cntB (hidP X o g) i from by simp [cntB, hidP, seP, knP, *]] at ih
        refine s_iload_n (q := 44) d_B_sumEnd_43 rfl rfl ?_
        refine s_aload_n (q := 45) d_B_sumEnd_44 rfl rfl (Or.inr ⟨_, rfl⟩) ?_
        refine g_getr (q := 48) d_B_sumEnd_45 rfl fl_B_18 hB.1 rfl ?_
        refine s_iload (q := 50) d_B_sumEnd_48 rfl rfl ?_
        refine g_iald (q := 51) d_B_sumEnd_50 rfl hB.2.2.2.1 (by omega) rfl (by omega) ?_
        refine s_iadd (q := 52) d_B_sumEnd_51 rfl ?_
        refine s_istore_n (q := 53) d_B_sumEnd_52 rfl (by decide) ?_
        refine s_goto (tgt := 59) d_B_sumEnd_53 (by decide) ?_
        refine s_iinc (q := 62) d_B_sumEnd_59 rfl rfl (by first | exact inc1 _ | rfl) (by decide) ?_
        refine s_goto (tgt := 8) d_B_sumEnd_62 (by decide) ?_
        exact s_lv (lv' := [(0, .ref o), (1, .int g), (2, .int e), (3, .int _), (4, .int (nI _)), (5, .int (nI (i + 1)))]) ⟨rfl, rfl, rfl, rfl, rfl, rfl, trivial⟩ ih
    · -- F 19
      refine s_aload_n (q := 23) d_B_sumEnd_22 rfl rfl (Or.inr ⟨_, rfl⟩) ?_
      refine g_getr (q := 26) d_B_sumEnd_23 rfl fl_B_15 hB.1 rfl ?_
      refine s_iload (q := 28) d_B_sumEnd_26 rfl rfl ?_
      refine g_iald (q := 29) d_B_sumEnd_28 rfl hB.2.2.1 (by omega) rfl (by omega) ?_
      refine s_iload_n (q := 30) d_B_sumEnd_29 rfl rfl ?_
      refine s_icmp_ne (tgt := 59) (q := 33) d_B_sumEnd_30 (by decide) rfl (fun h_30 => ?_) (fun h_30 => ?_)
      · -- T 30
        rw [show sumK X o g (i + 1) = sumK X o g i from by simp [sumK, seP, knP, *], show cntB (hidP X o g) (i + 1) = cntB (hidP X o g) i from by simp [cntB, hidP, seP, knP, *]] at ih
        refine s_iinc (q := 62) d_B_sumEnd_59 rfl rfl (by first | exact inc1 _ | rfl) (by decide) ?_
        refine s_goto (tgt := 8) d_B_sumEnd_62 (by decide) ?_
        exact s_lv (lv' := [(0, .ref o), (1, .int g), (2, .int e), (3, .int _), (4, .int (nI _)), (5, .int (nI (i + 1)))]) ⟨rfl, rfl, rfl, rfl, rfl, rfl, trivial⟩ ih
      · -- F 30
        refine s_aload_n (q := 34) d_B_sumEnd_33 rfl rfl (Or.inr ⟨_, rfl⟩) ?_
        refine g_getr (q := 37) d_B_sumEnd_34 rfl fl_B_21 hB.1 rfl ?_
        refine s_iload (q := 39) d_B_sumEnd_37 rfl rfl ?_
        refine g_zald (q := 40) d_B_sumEnd_39 rfl hB.2.2.2.2.1 (by omega) rfl (by omega) ?_
        refine s_if_eq (tgt := 56) (q := 43) d_B_sumEnd_40 (by decide) rfl (fun h_40 => ?_) (fun h_40 => ?_)
        · -- T 40
          rw [show sumK X o g (i + 1) = sumK X o g i from by simp [sumK, seP, knP, *], show cntB (hidP X o g) (i + 1) = cntB (hidP X o g) i + 1 from by simp [cntB, hidP, seP, knP, *]] at ih
          refine s_iinc (q := 59) d_B_sumEnd_56 rfl rfl (by first | exact inc1 _ | rfl) (by decide) ?_
          refine s_iinc (q := 62) d_B_sumEnd_59 rfl rfl (by first | exact inc1 _ | rfl) (by decide) ?_
          refine s_goto (tgt := 8) d_B_sumEnd_62 (by decide) ?_
          exact s_lv (lv' := [(0, .ref o), (1, .int g), (2, .int e), (3, .int _), (4, .int (nI _)), (5, .int (nI (i + 1)))]) ⟨rfl, rfl, rfl, rfl, rfl, rfl, trivial⟩ ih
        · -- F 40
          rw [show sumK X o g (i + 1) = sumK X o g i + X (o + 3) i from by simp [sumK, seP, knP, *], show cntB (hidP X o g) (i + 1) = cntB (hidP X o g) i from by simp [cntB, hidP, seP, knP, *]] at ih
          refine s_iload_n (q := 44) d_B_sumEnd_43 rfl rfl ?_
          refine s_aload_n (q := 45) d_B_sumEnd_44 rfl rfl (Or.inr ⟨_, rfl⟩) ?_
          refine g_getr (q := 48) d_B_sumEnd_45 rfl fl_B_18 hB.1 rfl ?_
          refine s_iload (q := 50) d_B_sumEnd_48 rfl rfl ?_
          refine g_iald (q := 51) d_B_sumEnd_50 rfl hB.2.2.2.1 (by omega) rfl (by omega) ?_
          refine s_iadd (q := 52) d_B_sumEnd_51 rfl ?_
          refine s_istore_n (q := 53) d_B_sumEnd_52 rfl (by decide) ?_
          refine s_goto (tgt := 59) d_B_sumEnd_53 (by decide) ?_
          refine s_iinc (q := 62) d_B_sumEnd_59 rfl rfl (by first | exact inc1 _ | rfl) (by decide) ?_
          refine s_goto (tgt := 8) d_B_sumEnd_62 (by decide) ?_
          exact s_lv (lv' := [(0, .ref o), (1, .int g), (2, .int e), (3, .int _), (4, .int (nI _)), (5, .int (nI (i + 1)))]) ⟨rfl, rfl, rfl, rfl, rfl, rfl, trivial⟩ ih
theorem t_B_sumEnd {X : RAM} {o n : Nat} {g e : Int32} (hB : isB o) (hsz : X o 5 = nI n) (hn : n ≤ 12) : CG l D ac b y_B_sumEnd c_B_sumEnd 6 (some .long) 3 63 [.ref o, .int g, .int e] X (some (.long (sumV X o n g e))) (X) := by
  refine Ct_of false (by decide) (fun h => by cases h) (Nat.le_of_ble_eq_true rfl) ?_
  show V l D ac b "SpanStore$Block" c_B_sumEnd 6 (some .long) false 3 63 0 0 ((some (.long (sumV X o n g e))), 144, mk (X)) 0 0 0 [(0, .ref o), (1, .int g), (2, .int e)] [] 144 (mk X)
  refine s_iconst (v := 0) (q := 1) d_B_sumEnd_0 rfl ki_0 ?_
  refine s_istore_n (q := 2) d_B_sumEnd_1 rfl (by decide) ?_
  refine s_iconst (v := 0) (q := 3) d_B_sumEnd_2 rfl ki_0 ?_
  refine s_istore (q := 5) d_B_sumEnd_3 rfl (by decide) ?_
  refine s_iconst (v := 0) (q := 6) d_B_sumEnd_5 rfl ki_0 ?_
  refine s_istore (q := 8) d_B_sumEnd_6 rfl (by decide) ?_
  exact s_lv (lv' := [(0, .ref o), (1, .int g), (2, .int e), (3, .int (sumK X o g 0)), (4, .int (nI (cntB (hidP X o g) 0))), (5, .int (nI 0))]) ⟨rfl, rfl, rfl, rfl, rfl, rfl, trivial⟩ (lp_sumEnd hB hsz hn 0 (Nat.zero_le n))
theorem t_B_apart {X : RAM} {o n : Nat} {g : Int32} (hB : isB o) (hsz : X o 5 = nI n) (hn : n ≤ 12) : CG l D ac b y_B_apart c_B_apart 2 (some .long) 4 88 [.ref o, .int g] X (some (.long (sumV X o n g 1 - sumV X o n g 0))) (X) := by
  refine Ct_of false (by decide) (fun h => by cases h) (Nat.le_of_ble_eq_true rfl) ?_
  show V l D ac b "SpanStore$Block" c_B_apart 2 (some .long) false 4 88 0 0 ((some (.long (sumV X o n g 1 - sumV X o n g 0))), 144, mk (X)) 0 0 0 [(0, .ref o), (1, .int g)] [] 144 (mk X)
  refine s_aload_n (q := 1) d_B_apart_0 rfl rfl (Or.inr ⟨_, rfl⟩) ?_
  refine s_iload_n (q := 2) d_B_apart_1 rfl rfl ?_
  refine s_iconst (v := 1) (q := 3) d_B_apart_2 rfl ki_1 ?_
  refine g_callV (q := 6) d_B_apart_3 rfl ml_B_100 mx_B_sumEnd mv_B_sumEnd (t_B_sumEnd hB hsz hn) hB.1 rfl rfl (Nat.le_of_ble_eq_true rfl) (by decide) ?_
  refine s_aload_n (q := 7) d_B_apart_6 rfl rfl (Or.inr ⟨_, rfl⟩) ?_
  refine s_iload_n (q := 8) d_B_apart_7 rfl rfl ?_
  refine s_iconst (v := 0) (q := 9) d_B_apart_8 rfl ki_0 ?_
  refine g_callV (q := 12) d_B_apart_9 rfl ml_B_100 mx_B_sumEnd mv_B_sumEnd (t_B_sumEnd hB hsz hn) hB.1 rfl rfl (Nat.le_of_ble_eq_true rfl) (by decide) ?_
  refine s_lsub (q := 13) d_B_apart_12 rfl ?_
  exact g_lret d_B_apart_13 rfl rfl rfl
def hcV (X : RAM) (o : Nat) (x e : Int32) : Int32 := if X o 9 < x then (if x ≤ X o 10 then (if e = 0 then bI (ogP X o) else if olP X o = true then X o 5 - X o 6 - 1 else X o 5 - X o 6) else 0) else X o 5 - X o 6
def geP (X : RAM) (o : Nat) (x : Int32) (i : Nat) : Bool := knP X o i && !decide (X (o + 3) i < x)
def cntV (X : RAM) (o n : Nat) (x e : Int32) : Int32 := if X o 6 < X o 5 then nI (cntB (geP X o x) n) + hcV X o x e else nI (cntB (geP X o x) n)
theorem t_B_hiddenCountEnd {X : RAM} {o : Nat} {x e : Int32} (hB : isB o) : CG l D ac b y_B_hiddenCountEnd c_B_hiddenCountEnd 4 (some .int) 2 40 [.ref o, .int x, .int e] X (some (.int (hcV X o x e))) (X) := by
  refine Ct_of false (by decide) (fun h => by cases h) (Nat.le_of_ble_eq_true rfl) ?_
  show V l D ac b "SpanStore$Block" c_B_hiddenCountEnd 4 (some .int) false 2 40 0 0 ((some (.int (hcV X o x e))), 144, mk (X)) 0 0 0 [(0, .ref o), (1, .int x), (2, .int e)] [] 144 (mk X)
  refine s_aload_n (q := 1) d_B_hiddenCountEnd_0 rfl rfl (Or.inr ⟨_, rfl⟩) ?_
  refine g_geti (q := 4) d_B_hiddenCountEnd_1 rfl fl_B_28 hB.1 rfl ?_
  refine s_aload_n (q := 5) d_B_hiddenCountEnd_4 rfl rfl (Or.inr ⟨_, rfl⟩) ?_
  refine g_geti (q := 8) d_B_hiddenCountEnd_5 rfl fl_B_32 hB.1 rfl ?_
  refine s_isub (q := 9) d_B_hiddenCountEnd_8 rfl ?_
  refine s_istore_n (q := 10) d_B_hiddenCountEnd_9 rfl (by decide) ?_
  refine s_aload_n (q := 11) d_B_hiddenCountEnd_10 rfl rfl (Or.inr ⟨_, rfl⟩) ?_
  refine g_geti (q := 14) d_B_hiddenCountEnd_11 rfl fl_B_68 hB.1 rfl ?_
  refine s_iload_n (q := 15) d_B_hiddenCountEnd_14 rfl rfl ?_
  refine s_icmp_lt (tgt := 20) (q := 18) d_B_hiddenCountEnd_15 (by decide) rfl (fun h_15 => ?_) (fun h_15 => ?_)
  · -- T 15
    refine s_aload_n (q := 21) d_B_hiddenCountEnd_20 rfl rfl (Or.inr ⟨_, rfl⟩) ?_
    refine g_geti (q := 24) d_B_hiddenCountEnd_21 rfl fl_B_71 hB.1 rfl ?_
    refine s_iload_n (q := 25) d_B_hiddenCountEnd_24 rfl rfl ?_
    refine s_icmp_ge (tgt := 30) (q := 28) d_B_hiddenCountEnd_25 (by decide) rfl (fun h_25 => ?_) (fun h_25 => ?_)
    · -- T 25
      refine s_iload_n (q := 31) d_B_hiddenCountEnd_30 rfl rfl ?_
      refine s_if_ne (tgt := 47) (q := 34) d_B_hiddenCountEnd_31 (by decide) rfl (fun h_31 => ?_) (fun h_31 => ?_)
      · -- T 31
        refine s_aload_n (q := 48) d_B_hiddenCountEnd_47 rfl rfl (Or.inr ⟨_, rfl⟩) ?_
        refine g_callV (q := 51) d_B_hiddenCountEnd_48 rfl ml_B_87 mx_B_owesLeast mv_B_owesLeast (t_B_owesLeast hB) hB.1 rfl rfl (Nat.le_of_ble_eq_true rfl) (by decide) ?_
        refine s_if_eq (tgt := 60) (q := 54) d_B_hiddenCountEnd_51 (by decide) rfl (fun h_51 => ?_) (fun h_51 => ?_)
        · -- T 51
          rw [bI_0] at h_51
          refine s_iload_n (q := 61) d_B_hiddenCountEnd_60 rfl rfl ?_
          exact g_iret d_B_hiddenCountEnd_61 rfl rfl (by simp [hcV, bI, *]) rfl
        · -- F 51
          rw [bI_n0] at h_51
          refine s_iload_n (q := 55) d_B_hiddenCountEnd_54 rfl rfl ?_
          refine s_iconst (v := 1) (q := 56) d_B_hiddenCountEnd_55 rfl ki_1 ?_
          refine s_isub (q := 57) d_B_hiddenCountEnd_56 rfl ?_
          refine s_goto (tgt := 61) d_B_hiddenCountEnd_57 (by decide) ?_
          exact g_iret d_B_hiddenCountEnd_61 rfl rfl (by simp [hcV, bI, *]) rfl
      · -- F 31
        refine s_aload_n (q := 35) d_B_hiddenCountEnd_34 rfl rfl (Or.inr ⟨_, rfl⟩) ?_
        refine g_callV (q := 38) d_B_hiddenCountEnd_35 rfl ml_B_90 mx_B_owesGreatest mv_B_owesGreatest (t_B_owesGreatest hB) hB.1 rfl rfl (Nat.le_of_ble_eq_true rfl) (by decide) ?_
        refine s_if_eq (tgt := 45) (q := 41) d_B_hiddenCountEnd_38 (by decide) rfl (fun h_38 => ?_) (fun h_38 => ?_)
        · -- T 38
          rw [bI_0] at h_38
          refine s_iconst (v := 0) (q := 46) d_B_hiddenCountEnd_45 rfl ki_0 ?_
          exact g_iret d_B_hiddenCountEnd_46 rfl rfl (by simp [hcV, bI, *]) rfl
        · -- F 38
          rw [bI_n0] at h_38
          refine s_iconst (v := 1) (q := 42) d_B_hiddenCountEnd_41 rfl ki_1 ?_
          refine s_goto (tgt := 46) d_B_hiddenCountEnd_42 (by decide) ?_
          exact g_iret d_B_hiddenCountEnd_46 rfl rfl (by simp [hcV, bI, *]) rfl
    · -- F 25
      refine s_iconst (v := 0) (q := 29) d_B_hiddenCountEnd_28 rfl ki_0 ?_
      exact g_iret d_B_hiddenCountEnd_29 rfl rfl (by simp [hcV, bI, *]) rfl
  · -- F 15
    refine s_iload_n (q := 19) d_B_hiddenCountEnd_18 rfl rfl ?_
    exact g_iret d_B_hiddenCountEnd_19 rfl rfl (by simp [hcV, bI, *]) rfl
theorem lp_countEnd {X : RAM} {o n : Nat} {x e : Int32} (hB : isB o) (hsz : X o 5 = nI n) (hn : n ≤ 12) : ∀ i, i ≤ n → V l D ac b "SpanStore$Block" c_B_countEnd 5 (some .int) false 3 63 0 0 ((some (.int (cntV X o n x e))), 144, mk X) 0 0 5 [(0, .ref o), (1, .int x), (2, .int e), (3, .int (nI (cntB (geP X o x) i))), (4, .int (nI i))] [] 144 (mk X) := by
  refine nat_down ?_ (fun i hi ih => ?_)
  · skip
    refine s_iload (q := 7) d_B_countEnd_5 rfl rfl ?_
    refine s_aload_n (q := 8) d_B_countEnd_7 rfl rfl (Or.inr ⟨_, rfl⟩) ?_
    refine g_getv (v := nI n) (q := 11) d_B_countEnd_8 rfl fl_B_28 hB.1 rfl hsz ?_
    refine s_icmp_ge (tgt := 44) (q := 14) d_B_countEnd_11 (by decide) rfl (fun _ => ?_) (fun z => absurd (nI_le (Nat.le_refl n) (by omega)) z)
    refine s_aload_n (q := 45) d_B_countEnd_44 rfl rfl (Or.inr ⟨_, rfl⟩) ?_
    refine g_callV (q := 48) d_B_countEnd_45 rfl ml_B_83 mx_B_isHalf mv_B_isHalf (t_B_isHalf hB) hB.1 rfl rfl (Nat.le_of_ble_eq_true rfl) (by decide) ?_
    refine s_if_eq (tgt := 62) (q := 51) d_B_countEnd_48 (by decide) rfl (fun h_48 => ?_) (fun h_48 => ?_)
    · -- T 48
      rw [bI_d] at h_48
      refine s_iload_n (q := 63) d_B_countEnd_62 rfl rfl ?_
      exact g_iret d_B_countEnd_63 rfl rfl (by simp [cntV, h_48]) rfl
    · -- F 48
      rw [bI_dn] at h_48
      refine s_iload_n (q := 52) d_B_countEnd_51 rfl rfl ?_
      refine s_aload_n (q := 53) d_B_countEnd_52 rfl rfl (Or.inr ⟨_, rfl⟩) ?_
      refine s_iload_n (q := 54) d_B_countEnd_53 rfl rfl ?_
      refine s_iload_n (q := 55) d_B_countEnd_54 rfl rfl ?_
      refine g_callV (q := 58) d_B_countEnd_55 rfl ml_B_104 mx_B_hiddenCountEnd mv_B_hiddenCountEnd (t_B_hiddenCountEnd hB) hB.1 rfl rfl (Nat.le_of_ble_eq_true rfl) (by decide) ?_
      refine s_iadd (q := 59) d_B_countEnd_58 rfl ?_
      refine s_goto (tgt := 63) d_B_countEnd_59 (by decide) ?_
      exact g_iret d_B_countEnd_63 rfl rfl (by simp [cntV, h_48]) rfl
  · skip
    refine s_iload (q := 7) d_B_countEnd_5 rfl rfl ?_
    refine s_aload_n (q := 8) d_B_countEnd_7 rfl rfl (Or.inr ⟨_, rfl⟩) ?_
    refine g_getv (v := nI n) (q := 11) d_B_countEnd_8 rfl fl_B_28 hB.1 rfl hsz ?_
    refine s_icmp_ge (tgt := 44) (q := 14) d_B_countEnd_11 (by decide) rfl (fun z => absurd z (nI_ge hi (by omega))) (fun _ => ?_)
    refine s_aload_n (q := 15) d_B_countEnd_14 rfl rfl (Or.inr ⟨_, rfl⟩) ?_
    refine g_getr (q := 18) d_B_countEnd_15 rfl fl_B_21 hB.1 rfl ?_
    refine s_iload (q := 20) d_B_countEnd_18 rfl rfl ?_
    refine g_zald (q := 21) d_B_countEnd_20 rfl hB.2.2.2.2.1 (by omega) rfl (by omega) ?_
    refine s_if_eq (tgt := 38) (q := 24) d_B_countEnd_21 (by decide) rfl (fun h_21 => ?_) (fun h_21 => ?_)
    · -- T 21
      rw [show cntB (geP X o x) (i + 1) = cntB (geP X o x) i from by simp [cntB, geP, knP, *]] at ih
      refine s_iinc (q := 41) d_B_countEnd_38 rfl rfl (by first | exact inc1 _ | rfl) (by decide) ?_
      refine s_goto (tgt := 5) d_B_countEnd_41 (by decide) ?_
      exact s_lv (lv' := [(0, .ref o), (1, .int x), (2, .int e), (3, .int (nI _)), (4, .int (nI (i + 1)))]) ⟨rfl, rfl, rfl, rfl, rfl, trivial⟩ ih
    · -- F 21
      refine s_aload_n (q := 25) d_B_countEnd_24 rfl rfl (Or.inr ⟨_, rfl⟩) ?_
      refine g_getr (q := 28) d_B_countEnd_25 rfl fl_B_18 hB.1 rfl ?_
      refine s_iload (q := 30) d_B_countEnd_28 rfl rfl ?_
      refine g_iald (q := 31) d_B_countEnd_30 rfl hB.2.2.2.1 (by omega) rfl (by omega) ?_
      refine s_iload_n (q := 32) d_B_countEnd_31 rfl rfl ?_
      refine s_icmp_lt (tgt := 38) (q := 35) d_B_countEnd_32 (by decide) rfl (fun h_32 => ?_) (fun h_32 => ?_)
      · -- T 32
        rw [show cntB (geP X o x) (i + 1) = cntB (geP X o x) i from by simp [cntB, geP, knP, *]] at ih
        refine s_iinc (q := 41) d_B_countEnd_38 rfl rfl (by first | exact inc1 _ | rfl) (by decide) ?_
        refine s_goto (tgt := 5) d_B_countEnd_41 (by decide) ?_
        exact s_lv (lv' := [(0, .ref o), (1, .int x), (2, .int e), (3, .int (nI _)), (4, .int (nI (i + 1)))]) ⟨rfl, rfl, rfl, rfl, rfl, trivial⟩ ih
      · -- F 32
        rw [show cntB (geP X o x) (i + 1) = cntB (geP X o x) i + 1 from by simp [cntB, geP, knP, *]] at ih
        refine s_iinc (q := 38) d_B_countEnd_35 rfl rfl (by first | exact inc1 _ | rfl) (by decide) ?_
        refine s_iinc (q := 41) d_B_countEnd_38 rfl rfl (by first | exact inc1 _ | rfl) (by decide) ?_
        refine s_goto (tgt := 5) d_B_countEnd_41 (by decide) ?_
        exact s_lv (lv' := [(0, .ref o), (1, .int x), (2, .int e), (3, .int (nI _)), (4, .int (nI (i + 1)))]) ⟨rfl, rfl, rfl, rfl, rfl, trivial⟩ ih
theorem t_B_countEnd {X : RAM} {o n : Nat} {x e : Int32} (hB : isB o) (hsz : X o 5 = nI n) (hn : n ≤ 12) : CG l D ac b y_B_countEnd c_B_countEnd 5 (some .int) 3 63 [.ref o, .int x, .int e] X (some (.int (cntV X o n x e))) (X) := by
  refine Ct_of false (by decide) (fun h => by cases h) (Nat.le_of_ble_eq_true rfl) ?_
  show V l D ac b "SpanStore$Block" c_B_countEnd 5 (some .int) false 3 63 0 0 ((some (.int (cntV X o n x e))), 144, mk (X)) 0 0 0 [(0, .ref o), (1, .int x), (2, .int e)] [] 144 (mk X)
  refine s_iconst (v := 0) (q := 1) d_B_countEnd_0 rfl ki_0 ?_
  refine s_istore_n (q := 2) d_B_countEnd_1 rfl (by decide) ?_
  refine s_iconst (v := 0) (q := 3) d_B_countEnd_2 rfl ki_0 ?_
  refine s_istore (q := 5) d_B_countEnd_3 rfl (by decide) ?_
  exact s_lv (lv' := [(0, .ref o), (1, .int x), (2, .int e), (3, .int (nI (cntB (geP X o x) 0))), (4, .int (nI 0))]) ⟨rfl, rfl, rfl, rfl, rfl, trivial⟩ (lp_countEnd hB hsz hn 0 (Nat.zero_le n))
def kyN (X : RAM) (o i : Nat) : Nat := (X (o + 1) i).toNatClampNeg
def okK (X : RAM) (o n : Nat) : Prop := ∀ i, i < n → kyN X o i < 100 ∧ X (o + 1) i = nI (kyN X o i)
def keP (X : RAM) (o k : Nat) (i : Nat) : Bool := knP X o i && decide (kyN X o i = k)
def akX (X : RAM) (o n : Nat) : RAM := upA X 3 (fun k => X 3 k + nI (cntB (keP X o k) n))
theorem akX_0 (X : RAM) (o : Nat) : akX X o 0 = X := by
  unfold akX
  have : (fun k => X 3 k + nI (cntB (keP X o k) 0)) = X 3 := by
    funext k
    show X 3 k + 0 = X 3 k
    simp
  rw [this, upA_self]
theorem akX_ne {X : RAM} {o n a : Nat} (h : a ≠ 3) : akX X o n a = X a := upA_ne h
theorem akX_u {X : RAM} {o i : Nat} (h : ¬ X (o + 4) i = 0) : up2 (akX X o i) 3 (kyN X o i) (akX X o i 3 (kyN X o i) + 1) = akX X o (i + 1) := by
  unfold akX
  rw [up2_upA, upA_same]
  congr 1
  funext k
  by_cases hk : k = kyN X o i
  · subst hk
    have : cntB (keP X o (kyN X o i)) (i + 1) = cntB (keP X o (kyN X o i)) i + 1 := by simp [cntB, keP, knP, h]
    rw [this]
    simp only [upd, if_true]
    rw [← nI_s, Int32.add_assoc]
  · have : cntB (keP X o k) (i + 1) = cntB (keP X o k) i := by
      simp [cntB, keP, Ne.symm hk]
    rw [this]
    simp [upd, hk]
theorem akX_k {X : RAM} {o i : Nat} (h : X (o + 4) i = 0) : akX X o i = akX X o (i + 1) := by
  unfold akX
  congr 1
  funext k
  have : cntB (keP X o k) (i + 1) = cntB (keP X o k) i := by simp [cntB, keP, knP, h]
  rw [this]
theorem lp_addKK {X : RAM} {o n : Nat} (hB : isB o) (hsz : X o 5 = nI n) (hn : n ≤ 12) (hk : okK X o n) (h7 : 7 ≤ o) : ∀ i, i ≤ n → V l D ac b "SpanStore$Block" c_B_addKnownKeys 4 none false 0 0 0 0 (none, 144, mk (akX X o n)) 0 0 2 [(0, .ref o), (1, .ref 3), (2, .int (nI i))] [] 144 (mk (akX X o i)) := by
  refine nat_down ?_ (fun i hi ih => ?_)
  · skip
    refine s_iload_n (q := 3) d_B_addKnownKeys_2 rfl rfl ?_
    refine s_aload_n (q := 4) d_B_addKnownKeys_3 rfl rfl (Or.inr ⟨_, rfl⟩) ?_
    refine g_getv (v := nI n) (q := 7) d_B_addKnownKeys_4 rfl fl_B_28 hB.1 rfl (by rw [akX_ne (by omega), hsz]) ?_
    refine s_icmp_ge (tgt := 49) (q := 10) d_B_addKnownKeys_7 (by decide) rfl (fun _ => ?_) (fun z => absurd (nI_le (Nat.le_refl n) (by omega)) z)
    exact g_ret d_B_addKnownKeys_49 rfl rfl
  · skip
    refine s_iload_n (q := 3) d_B_addKnownKeys_2 rfl rfl ?_
    refine s_aload_n (q := 4) d_B_addKnownKeys_3 rfl rfl (Or.inr ⟨_, rfl⟩) ?_
    refine g_getv (v := nI n) (q := 7) d_B_addKnownKeys_4 rfl fl_B_28 hB.1 rfl (by rw [akX_ne (by omega), hsz]) ?_
    refine s_icmp_ge (tgt := 49) (q := 10) d_B_addKnownKeys_7 (by decide) rfl (fun z => absurd z (nI_ge hi (by omega))) (fun _ => ?_)
    refine s_aload_n (q := 11) d_B_addKnownKeys_10 rfl rfl (Or.inr ⟨_, rfl⟩) ?_
    refine g_getr (q := 14) d_B_addKnownKeys_11 rfl fl_B_9 hB.1 rfl ?_
    refine s_iload_n (q := 15) d_B_addKnownKeys_14 rfl rfl ?_
    refine g_ialv (v := nI (kyN X o i)) (q := 16) d_B_addKnownKeys_15 rfl hB.2.1 (by omega) rfl (by omega) (by rw [akX_ne (by omega)]; exact (hk i hi).2) ?_
    refine s_istore_n (q := 17) d_B_addKnownKeys_16 rfl (by decide) ?_
    refine s_aload_n (q := 18) d_B_addKnownKeys_17 rfl rfl (Or.inr ⟨_, rfl⟩) ?_
    refine g_getr (q := 21) d_B_addKnownKeys_18 rfl fl_B_21 hB.1 rfl ?_
    refine s_iload_n (q := 22) d_B_addKnownKeys_21 rfl rfl ?_
    refine g_zalv (v := X (o + 4) i) (q := 23) d_B_addKnownKeys_22 rfl hB.2.2.2.2.1 (by omega) rfl (by omega) (by rw [akX_ne (by omega)]) ?_
    refine s_if_eq (tgt := 43) (q := 26) d_B_addKnownKeys_23 (by decide) rfl (fun h_23 => ?_) (fun h_23 => ?_)
    · -- T 23
      rw [akX_k h_23]
      refine s_iinc (q := 46) d_B_addKnownKeys_43 rfl rfl (by first | exact inc1 _ | rfl) (by decide) ?_
      refine s_goto (tgt := 2) d_B_addKnownKeys_46 (by decide) ?_
      exact s_lv (lv' := [(0, .ref o), (1, .ref 3), (2, .int (nI (i + 1)))]) ⟨rfl, rfl, rfl, trivial⟩ ih
    · -- F 23
      refine s_iload_n (q := 27) d_B_addKnownKeys_26 rfl rfl ?_
      refine s_if_lt (tgt := 43) (q := 30) d_B_addKnownKeys_27 (by decide) rfl (fun z => absurd z (nI_pos (by have := hk i hi; omega))) (fun _ => ?_)
      refine s_iload_n (q := 31) d_B_addKnownKeys_30 rfl rfl ?_
      refine s_aload_n (q := 32) d_B_addKnownKeys_31 rfl rfl (Or.inr ⟨_, rfl⟩) ?_
      refine g_alen (q := 33) d_B_addKnownKeys_32 rfl hC.2.2.2.1 (by decide) ?_
      refine s_icmp_ge (tgt := 43) (q := 36) d_B_addKnownKeys_33 (by decide) rfl (fun z => absurd z (nI_ge (hk i hi).1 (by decide))) (fun _ => ?_)
      refine s_aload_n (q := 37) d_B_addKnownKeys_36 rfl rfl (Or.inr ⟨_, rfl⟩) ?_
      refine s_iload_n (q := 38) d_B_addKnownKeys_37 rfl rfl ?_
      refine s_dup2 (q := 39) d_B_addKnownKeys_38 rfl rfl rfl ?_
      refine g_iald (q := 40) d_B_addKnownKeys_39 rfl hC.2.2.2.1 (by omega) rfl (hk i hi).1 ?_
      refine s_iconst (v := 1) (q := 41) d_B_addKnownKeys_40 rfl ki_1 ?_
      refine s_iadd (q := 42) d_B_addKnownKeys_41 rfl ?_
      refine g_iast (q := 43) d_B_addKnownKeys_42 rfl hC.2.2.2.1 (by omega) rfl (hk i hi).1 ?_
      rw [akX_u h_23]
      refine s_iinc (q := 46) d_B_addKnownKeys_43 rfl rfl (by first | exact inc1 _ | rfl) (by decide) ?_
      refine s_goto (tgt := 2) d_B_addKnownKeys_46 (by decide) ?_
      exact s_lv (lv' := [(0, .ref o), (1, .ref 3), (2, .int (nI (i + 1)))]) ⟨rfl, rfl, rfl, trivial⟩ ih
theorem t_B_addKK {X : RAM} {o n : Nat} (hB : isB o) (hsz : X o 5 = nI n) (hn : n ≤ 12) (hk : okK X o n) (h7 : 7 ≤ o) : CG l D ac b y_B_addKnownKeys c_B_addKnownKeys 4 none 0 0 [.ref o, .ref 3] X (none) (akX X o n) := by
  refine Ct_of false (by decide) (fun h => by cases h) (Nat.le_of_ble_eq_true rfl) ?_
  show V l D ac b "SpanStore$Block" c_B_addKnownKeys 4 none false 0 0 0 0 ((none), 144, mk (akX X o n)) 0 0 0 [(0, .ref o), (1, .ref 3)] [] 144 (mk X)
  refine s_iconst (v := 0) (q := 1) d_B_addKnownKeys_0 rfl ki_0 ?_
  refine s_istore_n (q := 2) d_B_addKnownKeys_1 rfl (by decide) ?_
  have h := lp_addKK (l := l) (D := D) (ac := ac) (b := b) hB hsz hn hk h7 0 (Nat.zero_le n)
  rw [akX_0] at h
  exact s_lv (lv' := [(0, .ref o), (1, .ref 3), (2, .int (nI 0))]) ⟨rfl, rfl, rfl, trivial⟩ h
def pwP (X : RAM) (o : Nat) (m r : Int32) (i : Nat) : Bool := knP X o i && decide (0 < m ∧ remI (X (o + 1) i) m = r)
def pwS (X : RAM) (o : Nat) (m r : Int32) : Nat → Int32
  | 0 => 0
  | i + 1 => if pwP X o m r i = true then pwS X o m r i + X 3 (kyN X o i) else pwS X o m r i
theorem lp_pairsWith {X : RAM} {o n : Nat} {m r : Int32} (hB : isB o) (hsz : X o 5 = nI n) (hn : n ≤ 12) (hk : okK X o n) : ∀ i, i ≤ n → V l D ac b "SpanStore$Block" c_B_pairsWith 8 (some .int) false 1 22 0 0 ((some (.int (pwS X o m r n))), 144, mk X) 0 0 6 [(0, .ref o), (1, .ref 3), (2, .int m), (3, .int r), (4, .int (pwS X o m r i)), (5, .int (nI i))] [] 144 (mk X) := by
  refine nat_down ?_ (fun i hi ih => ?_)
  · skip
    refine s_iload (q := 8) d_B_pairsWith_6 rfl rfl ?_
    refine s_aload_n (q := 9) d_B_pairsWith_8 rfl rfl (Or.inr ⟨_, rfl⟩) ?_
    refine g_getv (v := nI n) (q := 12) d_B_pairsWith_9 rfl fl_B_28 hB.1 rfl hsz ?_
    refine s_icmp_ge (tgt := 83) (q := 15) d_B_pairsWith_12 (by decide) rfl (fun _ => ?_) (fun z => absurd (nI_le (Nat.le_refl n) (by omega)) z)
    refine s_iload (q := 85) d_B_pairsWith_83 rfl rfl ?_
    exact g_iret d_B_pairsWith_85 rfl rfl rfl rfl
  · skip
    refine s_iload (q := 8) d_B_pairsWith_6 rfl rfl ?_
    refine s_aload_n (q := 9) d_B_pairsWith_8 rfl rfl (Or.inr ⟨_, rfl⟩) ?_
    refine g_getv (v := nI n) (q := 12) d_B_pairsWith_9 rfl fl_B_28 hB.1 rfl hsz ?_
    refine s_icmp_ge (tgt := 83) (q := 15) d_B_pairsWith_12 (by decide) rfl (fun z => absurd z (nI_ge hi (by omega))) (fun _ => ?_)
    refine s_aload_n (q := 16) d_B_pairsWith_15 rfl rfl (Or.inr ⟨_, rfl⟩) ?_
    refine g_getr (q := 19) d_B_pairsWith_16 rfl fl_B_9 hB.1 rfl ?_
    refine s_iload (q := 21) d_B_pairsWith_19 rfl rfl ?_
    refine g_ialv (v := nI (kyN X o i)) (q := 22) d_B_pairsWith_21 rfl hB.2.1 (by omega) rfl (by omega) (hk i hi).2 ?_
    refine s_istore (q := 24) d_B_pairsWith_22 rfl (by decide) ?_
    refine s_aload_n (q := 25) d_B_pairsWith_24 rfl rfl (Or.inr ⟨_, rfl⟩) ?_
    refine g_getr (q := 28) d_B_pairsWith_25 rfl fl_B_21 hB.1 rfl ?_
    refine s_iload (q := 30) d_B_pairsWith_28 rfl rfl ?_
    refine g_zald (q := 31) d_B_pairsWith_30 rfl hB.2.2.2.2.1 (by omega) rfl (by omega) ?_
    refine s_if_eq (tgt := 48) (q := 34) d_B_pairsWith_31 (by decide) rfl (fun h_31 => ?_) (fun h_31 => ?_)
    · -- T 31
      rw [show pwS X o m r (i + 1) = pwS X o m r i from by simp [pwS, pwP, knP, *]] at ih
      refine s_iconst (v := 0) (q := 49) d_B_pairsWith_48 rfl ki_0 ?_
      refine s_istore (q := 51) d_B_pairsWith_49 rfl (by decide) ?_
      refine s_iload (q := 53) d_B_pairsWith_51 rfl rfl ?_
      refine s_if_eq (tgt := 77) (q := 56) d_B_pairsWith_53 (by decide) rfl (fun _ => ?_) (fun z => absurd (by decide) z)
      refine s_iinc (q := 80) d_B_pairsWith_77 rfl rfl (by first | exact inc1 _ | rfl) (by decide) ?_
      refine s_goto (tgt := 6) d_B_pairsWith_80 (by decide) ?_
      exact s_lv (lv' := [(0, .ref o), (1, .ref 3), (2, .int m), (3, .int r), (4, .int _), (5, .int (nI (i + 1)))]) ⟨rfl, rfl, rfl, rfl, rfl, rfl, trivial⟩ ih
    · -- F 31
      refine s_iload (q := 36) d_B_pairsWith_34 rfl rfl ?_
      refine s_iload_n (q := 37) d_B_pairsWith_36 rfl rfl ?_
      refine s_iload_n (q := 38) d_B_pairsWith_37 rfl rfl ?_
      refine g_callN (q := 41) d_B_pairsWith_38 rfl (by decide) mx_C_isCongruent ms_C_isCongruent t_C_isCongruent rfl rfl (Nat.le_of_ble_eq_true rfl) (by decide) ?_
      refine s_if_eq (tgt := 48) (q := 44) d_B_pairsWith_41 (by decide) rfl (fun h_41 => ?_) (fun h_41 => ?_)
      · -- T 41
        rw [bI_d, ← (hk i hi).2] at h_41
        rw [show pwS X o m r (i + 1) = pwS X o m r i from by simp [pwS, pwP, knP, *]] at ih
        refine s_iconst (v := 0) (q := 49) d_B_pairsWith_48 rfl ki_0 ?_
        refine s_istore (q := 51) d_B_pairsWith_49 rfl (by decide) ?_
        refine s_iload (q := 53) d_B_pairsWith_51 rfl rfl ?_
        refine s_if_eq (tgt := 77) (q := 56) d_B_pairsWith_53 (by decide) rfl (fun _ => ?_) (fun z => absurd (by decide) z)
        refine s_iinc (q := 80) d_B_pairsWith_77 rfl rfl (by first | exact inc1 _ | rfl) (by decide) ?_
        refine s_goto (tgt := 6) d_B_pairsWith_80 (by decide) ?_
        exact s_lv (lv' := [(0, .ref o), (1, .ref 3), (2, .int m), (3, .int r), (4, .int _), (5, .int (nI (i + 1)))]) ⟨rfl, rfl, rfl, rfl, rfl, rfl, trivial⟩ ih
      · -- F 41
        rw [bI_dn, ← (hk i hi).2] at h_41
        rw [show pwS X o m r (i + 1) = pwS X o m r i + X 3 (kyN X o i) from by simp [pwS, pwP, knP, *]] at ih
        refine s_iconst (v := 1) (q := 45) d_B_pairsWith_44 rfl ki_1 ?_
        refine s_goto (tgt := 49) d_B_pairsWith_45 (by decide) ?_
        refine s_istore (q := 51) d_B_pairsWith_49 rfl (by decide) ?_
        refine s_iload (q := 53) d_B_pairsWith_51 rfl rfl ?_
        refine s_if_eq (tgt := 77) (q := 56) d_B_pairsWith_53 (by decide) rfl (fun z => absurd z (by decide)) (fun _ => ?_)
        refine s_iload (q := 58) d_B_pairsWith_56 rfl rfl ?_
        refine s_if_lt (tgt := 77) (q := 61) d_B_pairsWith_58 (by decide) rfl (fun z => absurd z (nI_pos (by have := hk i hi; omega))) (fun _ => ?_)
        refine s_iload (q := 63) d_B_pairsWith_61 rfl rfl ?_
        refine s_aload_n (q := 64) d_B_pairsWith_63 rfl rfl (Or.inr ⟨_, rfl⟩) ?_
        refine g_alen (q := 65) d_B_pairsWith_64 rfl hC.2.2.2.1 (by decide) ?_
        refine s_icmp_ge (tgt := 77) (q := 68) d_B_pairsWith_65 (by decide) rfl (fun z => absurd z (nI_ge (hk i hi).1 (by decide))) (fun _ => ?_)
        refine s_iload (q := 70) d_B_pairsWith_68 rfl rfl ?_
        refine s_aload_n (q := 71) d_B_pairsWith_70 rfl rfl (Or.inr ⟨_, rfl⟩) ?_
        refine s_iload (q := 73) d_B_pairsWith_71 rfl rfl ?_
        refine g_iald (q := 74) d_B_pairsWith_73 rfl hC.2.2.2.1 (by omega) rfl (hk i hi).1 ?_
        refine s_iadd (q := 75) d_B_pairsWith_74 rfl ?_
        refine s_istore (q := 77) d_B_pairsWith_75 rfl (by decide) ?_
        refine s_iinc (q := 80) d_B_pairsWith_77 rfl rfl (by first | exact inc1 _ | rfl) (by decide) ?_
        refine s_goto (tgt := 6) d_B_pairsWith_80 (by decide) ?_
        exact s_lv (lv' := [(0, .ref o), (1, .ref 3), (2, .int m), (3, .int r), (4, .int _), (5, .int (nI (i + 1)))]) ⟨rfl, rfl, rfl, rfl, rfl, rfl, trivial⟩ ih
theorem t_B_pairsWith {X : RAM} {o n : Nat} {m r : Int32} (hB : isB o) (hsz : X o 5 = nI n) (hn : n ≤ 12) (hk : okK X o n) : CG l D ac b y_B_pairsWith c_B_pairsWith 8 (some .int) 1 22 [.ref o, .ref 3, .int m, .int r] X (some (.int (pwS X o m r n))) (X) := by
  refine Ct_of false (by decide) (fun h => by cases h) (Nat.le_of_ble_eq_true rfl) ?_
  show V l D ac b "SpanStore$Block" c_B_pairsWith 8 (some .int) false 1 22 0 0 ((some (.int (pwS X o m r n))), 144, mk (X)) 0 0 0 [(0, .ref o), (1, .ref 3), (2, .int m), (3, .int r)] [] 144 (mk X)
  refine s_iconst (v := 0) (q := 1) d_B_pairsWith_0 rfl ki_0 ?_
  refine s_istore (q := 3) d_B_pairsWith_1 rfl (by decide) ?_
  refine s_iconst (v := 0) (q := 4) d_B_pairsWith_3 rfl ki_0 ?_
  refine s_istore (q := 6) d_B_pairsWith_4 rfl (by decide) ?_
  exact s_lv (lv' := [(0, .ref o), (1, .ref 3), (2, .int m), (3, .int r), (4, .int (pwS X o m r 0)), (5, .int (nI 0))]) ⟨rfl, rfl, rfl, rfl, rfl, rfl, trivial⟩ (lp_pairsWith hB hsz hn hk 0 (Nat.zero_le n))
end P08
end
section
section P09
variable {l : Launch} {D : va_G} {ac : Nat → ClassId} {b : Nat}
theorem t_C_isFact {X : RAM} {w : Int32} : CG l D ac b y_C_isFact c_C_isFact 2 (some .boolean) 0 0 [.int w] X (some (.int (bI (decide ((0 ≤ w ∧ w ≤ 7) ∨ (10 ≤ w ∧ w < 14)))))) (X) := by
  refine Ct_of false (by decide) (fun h => by cases h) (Nat.le_of_ble_eq_true rfl) ?_
  show V l D ac b "SpanStore" c_C_isFact 2 (some .boolean) false 0 0 0 0 ((some (.int (bI (decide ((0 ≤ w ∧ w ≤ 7) ∨ (10 ≤ w ∧ w < 14)))))), 144, mk (X)) 0 0 0 [(0, .int w)] [] 144 (mk X)
  refine s_iload_n (q := 1) d_C_isFact_0 rfl rfl ?_
  refine s_bipush (v := 10) (q := 3) d_C_isFact_1 rfl kb_10 ?_
  refine s_icmp_lt (tgt := 16) (q := 6) d_C_isFact_3 (by decide) rfl (fun h_3 => ?_) (fun h_3 => ?_)
  · -- T 3
    refine s_iconst (v := 0) (q := 17) d_C_isFact_16 rfl ki_0 ?_
    refine s_istore_n (q := 18) d_C_isFact_17 rfl (by decide) ?_
    refine s_iload_n (q := 19) d_C_isFact_18 rfl rfl ?_
    refine s_if_lt (tgt := 28) (q := 22) d_C_isFact_19 (by decide) rfl (fun h_19 => ?_) (fun h_19 => ?_)
    · -- T 19
      refine s_iload_n (q := 29) d_C_isFact_28 rfl rfl ?_
      refine s_if_eq (tgt := 36) (q := 32) d_C_isFact_29 (by decide) rfl (fun _ => ?_) (fun z => absurd (by decide) z)
      refine s_iconst (v := 0) (q := 37) d_C_isFact_36 rfl ki_0 ?_
      exact g_iret d_C_isFact_37 rfl rfl (by first | exact bI_is1 (by (try simp only [bI_d, bI_dn, strV, remI] at *); simp only [i_le, i_lt, i_eq, tI_0, tI_1, tI_2, tI_3, tI_4, tI_7, tI_8, tI_10, tI_12, tI_13, tI_14, tI_40, tI_99, tI_100, tI_1000, tI_m1000, tI_m1, tI_mil] at *; omega) | exact bI_is0 (by (try simp only [bI_d, bI_dn, strV, remI] at *); simp only [i_le, i_lt, i_eq, tI_0, tI_1, tI_2, tI_3, tI_4, tI_7, tI_8, tI_10, tI_12, tI_13, tI_14, tI_40, tI_99, tI_100, tI_1000, tI_m1000, tI_m1, tI_mil] at *; omega)) rfl
    · -- F 19
      refine s_iload_n (q := 23) d_C_isFact_22 rfl rfl ?_
      refine s_bipush (v := 7) (q := 25) d_C_isFact_23 rfl kb_7 ?_
      refine s_icmp_le (tgt := 32) (q := 28) d_C_isFact_25 (by decide) rfl (fun h_25 => ?_) (fun h_25 => ?_)
      · -- T 25
        refine s_iconst (v := 1) (q := 33) d_C_isFact_32 rfl ki_1 ?_
        refine s_goto (tgt := 37) d_C_isFact_33 (by decide) ?_
        exact g_iret d_C_isFact_37 rfl rfl (by first | exact bI_is1 (by (try simp only [bI_d, bI_dn, strV, remI] at *); simp only [i_le, i_lt, i_eq, tI_0, tI_1, tI_2, tI_3, tI_4, tI_7, tI_8, tI_10, tI_12, tI_13, tI_14, tI_40, tI_99, tI_100, tI_1000, tI_m1000, tI_m1, tI_mil] at *; omega) | exact bI_is0 (by (try simp only [bI_d, bI_dn, strV, remI] at *); simp only [i_le, i_lt, i_eq, tI_0, tI_1, tI_2, tI_3, tI_4, tI_7, tI_8, tI_10, tI_12, tI_13, tI_14, tI_40, tI_99, tI_100, tI_1000, tI_m1000, tI_m1, tI_mil] at *; omega)) rfl
      · -- F 25
        refine s_iload_n (q := 29) d_C_isFact_28 rfl rfl ?_
        refine s_if_eq (tgt := 36) (q := 32) d_C_isFact_29 (by decide) rfl (fun _ => ?_) (fun z => absurd (by decide) z)
        refine s_iconst (v := 0) (q := 37) d_C_isFact_36 rfl ki_0 ?_
        exact g_iret d_C_isFact_37 rfl rfl (by first | exact bI_is1 (by (try simp only [bI_d, bI_dn, strV, remI] at *); simp only [i_le, i_lt, i_eq, tI_0, tI_1, tI_2, tI_3, tI_4, tI_7, tI_8, tI_10, tI_12, tI_13, tI_14, tI_40, tI_99, tI_100, tI_1000, tI_m1000, tI_m1, tI_mil] at *; omega) | exact bI_is0 (by (try simp only [bI_d, bI_dn, strV, remI] at *); simp only [i_le, i_lt, i_eq, tI_0, tI_1, tI_2, tI_3, tI_4, tI_7, tI_8, tI_10, tI_12, tI_13, tI_14, tI_40, tI_99, tI_100, tI_1000, tI_m1000, tI_m1, tI_mil] at *; omega)) rfl
  · -- F 3
    refine s_iload_n (q := 7) d_C_isFact_6 rfl rfl ?_
    refine s_bipush (v := 14) (q := 9) d_C_isFact_7 rfl kb_14 ?_
    refine s_icmp_ge (tgt := 16) (q := 12) d_C_isFact_9 (by decide) rfl (fun h_9 => ?_) (fun h_9 => ?_)
    · -- T 9
      refine s_iconst (v := 0) (q := 17) d_C_isFact_16 rfl ki_0 ?_
      refine s_istore_n (q := 18) d_C_isFact_17 rfl (by decide) ?_
      refine s_iload_n (q := 19) d_C_isFact_18 rfl rfl ?_
      refine s_if_lt (tgt := 28) (q := 22) d_C_isFact_19 (by decide) rfl (fun h_19 => ?_) (fun h_19 => ?_)
      · -- T 19
        refine s_iload_n (q := 29) d_C_isFact_28 rfl rfl ?_
        refine s_if_eq (tgt := 36) (q := 32) d_C_isFact_29 (by decide) rfl (fun _ => ?_) (fun z => absurd (by decide) z)
        refine s_iconst (v := 0) (q := 37) d_C_isFact_36 rfl ki_0 ?_
        exact g_iret d_C_isFact_37 rfl rfl (by first | exact bI_is1 (by (try simp only [bI_d, bI_dn, strV, remI] at *); simp only [i_le, i_lt, i_eq, tI_0, tI_1, tI_2, tI_3, tI_4, tI_7, tI_8, tI_10, tI_12, tI_13, tI_14, tI_40, tI_99, tI_100, tI_1000, tI_m1000, tI_m1, tI_mil] at *; omega) | exact bI_is0 (by (try simp only [bI_d, bI_dn, strV, remI] at *); simp only [i_le, i_lt, i_eq, tI_0, tI_1, tI_2, tI_3, tI_4, tI_7, tI_8, tI_10, tI_12, tI_13, tI_14, tI_40, tI_99, tI_100, tI_1000, tI_m1000, tI_m1, tI_mil] at *; omega)) rfl
      · -- F 19
        refine s_iload_n (q := 23) d_C_isFact_22 rfl rfl ?_
        refine s_bipush (v := 7) (q := 25) d_C_isFact_23 rfl kb_7 ?_
        refine s_icmp_le (tgt := 32) (q := 28) d_C_isFact_25 (by decide) rfl (fun h_25 => ?_) (fun h_25 => ?_)
        · -- T 25
          refine s_iconst (v := 1) (q := 33) d_C_isFact_32 rfl ki_1 ?_
          refine s_goto (tgt := 37) d_C_isFact_33 (by decide) ?_
          exact g_iret d_C_isFact_37 rfl rfl (by first | exact bI_is1 (by (try simp only [bI_d, bI_dn, strV, remI] at *); simp only [i_le, i_lt, i_eq, tI_0, tI_1, tI_2, tI_3, tI_4, tI_7, tI_8, tI_10, tI_12, tI_13, tI_14, tI_40, tI_99, tI_100, tI_1000, tI_m1000, tI_m1, tI_mil] at *; omega) | exact bI_is0 (by (try simp only [bI_d, bI_dn, strV, remI] at *); simp only [i_le, i_lt, i_eq, tI_0, tI_1, tI_2, tI_3, tI_4, tI_7, tI_8, tI_10, tI_12, tI_13, tI_14, tI_40, tI_99, tI_100, tI_1000, tI_m1000, tI_m1, tI_mil] at *; omega)) rfl
        · -- F 25
          refine s_iload_n (q := 29) d_C_isFact_28 rfl rfl ?_
          refine s_if_eq (tgt := 36) (q := 32) d_C_isFact_29 (by decide) rfl (fun _ => ?_) (fun z => absurd (by decide) z)
          refine s_iconst (v := 0) (q := 37) d_C_isFact_36 rfl ki_0 ?_
          exact g_iret d_C_isFact_37 rfl rfl (by first | exact bI_is1 (by (try simp only [bI_d, bI_dn, strV, remI] at *); simp only [i_le, i_lt, i_eq, tI_0, tI_1, tI_2, tI_3, tI_4, tI_7, tI_8, tI_10, tI_12, tI_13, tI_14, tI_40, tI_99, tI_100, tI_1000, tI_m1000, tI_m1, tI_mil] at *; omega) | exact bI_is0 (by (try simp only [bI_d, bI_dn, strV, remI] at *); simp only [i_le, i_lt, i_eq, tI_0, tI_1, tI_2, tI_3, tI_4, tI_7, tI_8, tI_10, tI_12, tI_13, tI_14, tI_40, tI_99, tI_100, tI_1000, tI_m1000, tI_m1, tI_mil] at *; omega)) rfl
    · -- F 9
      refine s_iconst (v := 1) (q := 13) d_C_isFact_12 rfl ki_1 ?_
      refine s_goto (tgt := 17) d_C_isFact_13 (by decide) ?_
      refine s_istore_n (q := 18) d_C_isFact_17 rfl (by decide) ?_
      refine s_iload_n (q := 19) d_C_isFact_18 rfl rfl ?_
      refine s_if_lt (tgt := 28) (q := 22) d_C_isFact_19 (by decide) rfl (fun h_19 => ?_) (fun h_19 => ?_)
      · -- T 19
        refine s_iload_n (q := 29) d_C_isFact_28 rfl rfl ?_
        refine s_if_eq (tgt := 36) (q := 32) d_C_isFact_29 (by decide) rfl (fun z => absurd z (by decide)) (fun _ => ?_)
        refine s_iconst (v := 1) (q := 33) d_C_isFact_32 rfl ki_1 ?_
        refine s_goto (tgt := 37) d_C_isFact_33 (by decide) ?_
        exact g_iret d_C_isFact_37 rfl rfl (by first | exact bI_is1 (by (try simp only [bI_d, bI_dn, strV, remI] at *); simp only [i_le, i_lt, i_eq, tI_0, tI_1, tI_2, tI_3, tI_4, tI_7, tI_8, tI_10, tI_12, tI_13, tI_14, tI_40, tI_99, tI_100, tI_1000, tI_m1000, tI_m1, tI_mil] at *; omega) | exact bI_is0 (by (try simp only [bI_d, bI_dn, strV, remI] at *); simp only [i_le, i_lt, i_eq, tI_0, tI_1, tI_2, tI_3, tI_4, tI_7, tI_8, tI_10, tI_12, tI_13, tI_14, tI_40, tI_99, tI_100, tI_1000, tI_m1000, tI_m1, tI_mil] at *; omega)) rfl
      · -- F 19
        refine s_iload_n (q := 23) d_C_isFact_22 rfl rfl ?_
        refine s_bipush (v := 7) (q := 25) d_C_isFact_23 rfl kb_7 ?_
        refine s_icmp_le (tgt := 32) (q := 28) d_C_isFact_25 (by decide) rfl (fun h_25 => ?_) (fun h_25 => ?_)
        · -- T 25
          refine s_iconst (v := 1) (q := 33) d_C_isFact_32 rfl ki_1 ?_
          refine s_goto (tgt := 37) d_C_isFact_33 (by decide) ?_
          exact g_iret d_C_isFact_37 rfl rfl (by first | exact bI_is1 (by (try simp only [bI_d, bI_dn, strV, remI] at *); simp only [i_le, i_lt, i_eq, tI_0, tI_1, tI_2, tI_3, tI_4, tI_7, tI_8, tI_10, tI_12, tI_13, tI_14, tI_40, tI_99, tI_100, tI_1000, tI_m1000, tI_m1, tI_mil] at *; omega) | exact bI_is0 (by (try simp only [bI_d, bI_dn, strV, remI] at *); simp only [i_le, i_lt, i_eq, tI_0, tI_1, tI_2, tI_3, tI_4, tI_7, tI_8, tI_10, tI_12, tI_13, tI_14, tI_40, tI_99, tI_100, tI_1000, tI_m1000, tI_m1, tI_mil] at *; omega)) rfl
        · -- F 25
          refine s_iload_n (q := 29) d_C_isFact_28 rfl rfl ?_
          refine s_if_eq (tgt := 36) (q := 32) d_C_isFact_29 (by decide) rfl (fun z => absurd z (by decide)) (fun _ => ?_)
          refine s_iconst (v := 1) (q := 33) d_C_isFact_32 rfl ki_1 ?_
          refine s_goto (tgt := 37) d_C_isFact_33 (by decide) ?_
          exact g_iret d_C_isFact_37 rfl rfl (by first | exact bI_is1 (by (try simp only [bI_d, bI_dn, strV, remI] at *); simp only [i_le, i_lt, i_eq, tI_0, tI_1, tI_2, tI_3, tI_4, tI_7, tI_8, tI_10, tI_12, tI_13, tI_14, tI_40, tI_99, tI_100, tI_1000, tI_m1000, tI_m1, tI_mil] at *; omega) | exact bI_is0 (by (try simp only [bI_d, bI_dn, strV, remI] at *); simp only [i_le, i_lt, i_eq, tI_0, tI_1, tI_2, tI_3, tI_4, tI_7, tI_8, tI_10, tI_12, tI_13, tI_14, tI_40, tI_99, tI_100, tI_1000, tI_m1000, tI_m1, tI_mil] at *; omega)) rfl
theorem t_C_mixed {X : RAM} {h x : Int64} : CG l D ac b y_C_mixed c_C_mixed 4 (some .long) 0 0 [.long h, .long x] X (some (.long (31 * h + x))) (X) := by
  refine Ct_of false (by decide) (fun h => by cases h) (Nat.le_of_ble_eq_true rfl) ?_
  show V l D ac b "SpanStore" c_C_mixed 4 (some .long) false 0 0 0 0 ((some (.long (31 * h + x))), 144, mk (X)) 0 0 0 [(0, .long h), (2, .long x)] [] 144 (mk X)
  refine s_ldc2 (q := 3) d_C_mixed_0 rfl kc_C_229 ?_
  refine s_lload_n (q := 4) d_C_mixed_3 rfl rfl ?_
  refine s_lmul (q := 5) d_C_mixed_4 rfl ?_
  refine s_lload_n (q := 6) d_C_mixed_5 rfl rfl ?_
  refine s_ladd (q := 7) d_C_mixed_6 rfl ?_
  exact g_lret d_C_mixed_7 rfl rfl rfl
def faV (X : RAM) (o w : Nat) : Int32 := match w with
  | 0 => X o 5
  | 1 => X o 7
  | 2 => X o 8
  | 3 => X o 5 - X o 6
  | 4 => if X o 6 < X o 5 then X o 9 else 0
  | 5 => if X o 6 < X o 5 then X o 10 else 0
  | 6 => bI (olP X o)
  | 7 => bI (ogP X o)
  | w => X (o + 5) (w - 10)
theorem t_B_fact {X : RAM} {o w : Nat} (hB : isB o) (hw : w ≤ 7 ∨ 10 ≤ w ∧ w < 14) : CG l D ac b y_B_fact c_B_fact 2 (some .int) 2 40 [.ref o, .int (nI w)] X (some (.int (faV X o w))) X := by
  rcases (show w = 0 ∨ w = 1 ∨ w = 2 ∨ w = 3 ∨ w = 4 ∨ w = 5 ∨ w = 6 ∨ w = 7 ∨ w = 10 ∨ w = 11 ∨ w = 12 ∨ w = 13 by omega) with rfl | rfl | rfl | rfl | rfl | rfl | rfl | rfl | rfl | rfl | rfl | rfl
  · skip
    refine Ct_of false (by decide) (fun h => by cases h) (Nat.le_of_ble_eq_true rfl) ?_
    show V l D ac b "SpanStore$Block" c_B_fact 2 (some .int) false 2 40 0 0 ((some (.int (faV X o 0))), 144, mk X) 0 0 0 [(0, .ref o), (1, .int (nI 0))] [] 144 (mk X)
    refine s_iload_n (q := 1) d_B_fact_0 rfl rfl ?_
    refine s_tsIn (tgt := 48) d_B_fact_1 (by decide) (by decide) rfl (by decide) ?_
    refine s_aload_n (q := 49) d_B_fact_48 rfl rfl (Or.inr ⟨_, rfl⟩) ?_
    refine g_geti (q := 52) d_B_fact_49 rfl fl_B_28 hB.1 rfl ?_
    exact g_iret d_B_fact_52 rfl rfl rfl rfl
  · skip
    refine Ct_of false (by decide) (fun h => by cases h) (Nat.le_of_ble_eq_true rfl) ?_
    show V l D ac b "SpanStore$Block" c_B_fact 2 (some .int) false 2 40 0 0 ((some (.int (faV X o 1))), 144, mk X) 0 0 0 [(0, .ref o), (1, .int (nI 1))] [] 144 (mk X)
    refine s_iload_n (q := 1) d_B_fact_0 rfl rfl ?_
    refine s_tsIn (tgt := 53) d_B_fact_1 (by decide) (by decide) rfl (by decide) ?_
    refine s_aload_n (q := 54) d_B_fact_53 rfl rfl (Or.inr ⟨_, rfl⟩) ?_
    refine g_geti (q := 57) d_B_fact_54 rfl fl_B_53 hB.1 rfl ?_
    exact g_iret d_B_fact_57 rfl rfl rfl rfl
  · skip
    refine Ct_of false (by decide) (fun h => by cases h) (Nat.le_of_ble_eq_true rfl) ?_
    show V l D ac b "SpanStore$Block" c_B_fact 2 (some .int) false 2 40 0 0 ((some (.int (faV X o 2))), 144, mk X) 0 0 0 [(0, .ref o), (1, .int (nI 2))] [] 144 (mk X)
    refine s_iload_n (q := 1) d_B_fact_0 rfl rfl ?_
    refine s_tsIn (tgt := 58) d_B_fact_1 (by decide) (by decide) rfl (by decide) ?_
    refine s_aload_n (q := 59) d_B_fact_58 rfl rfl (Or.inr ⟨_, rfl⟩) ?_
    refine g_geti (q := 62) d_B_fact_59 rfl fl_B_56 hB.1 rfl ?_
    exact g_iret d_B_fact_62 rfl rfl rfl rfl
  · skip
    refine Ct_of false (by decide) (fun h => by cases h) (Nat.le_of_ble_eq_true rfl) ?_
    show V l D ac b "SpanStore$Block" c_B_fact 2 (some .int) false 2 40 0 0 ((some (.int (faV X o 3))), 144, mk X) 0 0 0 [(0, .ref o), (1, .int (nI 3))] [] 144 (mk X)
    refine s_iload_n (q := 1) d_B_fact_0 rfl rfl ?_
    refine s_tsIn (tgt := 63) d_B_fact_1 (by decide) (by decide) rfl (by decide) ?_
    refine s_aload_n (q := 64) d_B_fact_63 rfl rfl (Or.inr ⟨_, rfl⟩) ?_
    refine g_geti (q := 67) d_B_fact_64 rfl fl_B_28 hB.1 rfl ?_
    refine s_aload_n (q := 68) d_B_fact_67 rfl rfl (Or.inr ⟨_, rfl⟩) ?_
    refine g_geti (q := 71) d_B_fact_68 rfl fl_B_32 hB.1 rfl ?_
    refine s_isub (q := 72) d_B_fact_71 rfl ?_
    exact g_iret d_B_fact_72 rfl rfl rfl rfl
  · skip
    refine Ct_of false (by decide) (fun h => by cases h) (Nat.le_of_ble_eq_true rfl) ?_
    show V l D ac b "SpanStore$Block" c_B_fact 2 (some .int) false 2 40 0 0 ((some (.int (faV X o 4))), 144, mk X) 0 0 0 [(0, .ref o), (1, .int (nI 4))] [] 144 (mk X)
    refine s_iload_n (q := 1) d_B_fact_0 rfl rfl ?_
    refine s_tsIn (tgt := 73) d_B_fact_1 (by decide) (by decide) rfl (by decide) ?_
    refine s_aload_n (q := 74) d_B_fact_73 rfl rfl (Or.inr ⟨_, rfl⟩) ?_
    refine g_callV (q := 77) d_B_fact_74 rfl ml_B_83 mx_B_isHalf mv_B_isHalf (t_B_isHalf hB) hB.1 rfl rfl (Nat.le_of_ble_eq_true rfl) (by decide) ?_
    refine s_if_eq (tgt := 87) (q := 80) d_B_fact_77 (by decide) rfl (fun h_77 => ?_) (fun h_77 => ?_)
    · -- T 77
      rw [bI_d] at h_77
      refine s_iconst (v := 0) (q := 88) d_B_fact_87 rfl ki_0 ?_
      exact g_iret d_B_fact_88 rfl rfl (by simp [faV, h_77]) rfl
    · -- F 77
      rw [bI_dn] at h_77
      refine s_aload_n (q := 81) d_B_fact_80 rfl rfl (Or.inr ⟨_, rfl⟩) ?_
      refine g_geti (q := 84) d_B_fact_81 rfl fl_B_68 hB.1 rfl ?_
      refine s_goto (tgt := 88) d_B_fact_84 (by decide) ?_
      exact g_iret d_B_fact_88 rfl rfl (by simp [faV, h_77]) rfl
  · skip
    refine Ct_of false (by decide) (fun h => by cases h) (Nat.le_of_ble_eq_true rfl) ?_
    show V l D ac b "SpanStore$Block" c_B_fact 2 (some .int) false 2 40 0 0 ((some (.int (faV X o 5))), 144, mk X) 0 0 0 [(0, .ref o), (1, .int (nI 5))] [] 144 (mk X)
    refine s_iload_n (q := 1) d_B_fact_0 rfl rfl ?_
    refine s_tsIn (tgt := 89) d_B_fact_1 (by decide) (by decide) rfl (by decide) ?_
    refine s_aload_n (q := 90) d_B_fact_89 rfl rfl (Or.inr ⟨_, rfl⟩) ?_
    refine g_callV (q := 93) d_B_fact_90 rfl ml_B_83 mx_B_isHalf mv_B_isHalf (t_B_isHalf hB) hB.1 rfl rfl (Nat.le_of_ble_eq_true rfl) (by decide) ?_
    refine s_if_eq (tgt := 103) (q := 96) d_B_fact_93 (by decide) rfl (fun h_93 => ?_) (fun h_93 => ?_)
    · -- T 93
      rw [bI_d] at h_93
      refine s_iconst (v := 0) (q := 104) d_B_fact_103 rfl ki_0 ?_
      exact g_iret d_B_fact_104 rfl rfl (by simp [faV, h_93]) rfl
    · -- F 93
      rw [bI_dn] at h_93
      refine s_aload_n (q := 97) d_B_fact_96 rfl rfl (Or.inr ⟨_, rfl⟩) ?_
      refine g_geti (q := 100) d_B_fact_97 rfl fl_B_71 hB.1 rfl ?_
      refine s_goto (tgt := 104) d_B_fact_100 (by decide) ?_
      exact g_iret d_B_fact_104 rfl rfl (by simp [faV, h_93]) rfl
  · skip
    refine Ct_of false (by decide) (fun h => by cases h) (Nat.le_of_ble_eq_true rfl) ?_
    show V l D ac b "SpanStore$Block" c_B_fact 2 (some .int) false 2 40 0 0 ((some (.int (faV X o 6))), 144, mk X) 0 0 0 [(0, .ref o), (1, .int (nI 6))] [] 144 (mk X)
    refine s_iload_n (q := 1) d_B_fact_0 rfl rfl ?_
    refine s_tsIn (tgt := 105) d_B_fact_1 (by decide) (by decide) rfl (by decide) ?_
    refine s_aload_n (q := 106) d_B_fact_105 rfl rfl (Or.inr ⟨_, rfl⟩) ?_
    refine g_callV (q := 109) d_B_fact_106 rfl ml_B_87 mx_B_owesLeast mv_B_owesLeast (t_B_owesLeast hB) hB.1 rfl rfl (Nat.le_of_ble_eq_true rfl) (by decide) ?_
    refine s_if_eq (tgt := 116) (q := 112) d_B_fact_109 (by decide) rfl (fun h_109 => ?_) (fun h_109 => ?_)
    · -- T 109
      refine s_iconst (v := 0) (q := 117) d_B_fact_116 rfl ki_0 ?_
      exact g_iret d_B_fact_117 rfl rfl (by simp only [faV]; first | (rw [bI_0] at h_109; rw [h_109]; rfl) | (rw [bI_n0] at h_109; rw [h_109]; rfl)) rfl
    · -- F 109
      refine s_iconst (v := 1) (q := 113) d_B_fact_112 rfl ki_1 ?_
      refine s_goto (tgt := 117) d_B_fact_113 (by decide) ?_
      exact g_iret d_B_fact_117 rfl rfl (by simp only [faV]; first | (rw [bI_0] at h_109; rw [h_109]; rfl) | (rw [bI_n0] at h_109; rw [h_109]; rfl)) rfl
  · skip
    refine Ct_of false (by decide) (fun h => by cases h) (Nat.le_of_ble_eq_true rfl) ?_
    show V l D ac b "SpanStore$Block" c_B_fact 2 (some .int) false 2 40 0 0 ((some (.int (faV X o 7))), 144, mk X) 0 0 0 [(0, .ref o), (1, .int (nI 7))] [] 144 (mk X)
    refine s_iload_n (q := 1) d_B_fact_0 rfl rfl ?_
    refine s_tsIn (tgt := 118) d_B_fact_1 (by decide) (by decide) rfl (by decide) ?_
    refine s_aload_n (q := 119) d_B_fact_118 rfl rfl (Or.inr ⟨_, rfl⟩) ?_
    refine g_callV (q := 122) d_B_fact_119 rfl ml_B_90 mx_B_owesGreatest mv_B_owesGreatest (t_B_owesGreatest hB) hB.1 rfl rfl (Nat.le_of_ble_eq_true rfl) (by decide) ?_
    refine s_if_eq (tgt := 129) (q := 125) d_B_fact_122 (by decide) rfl (fun h_122 => ?_) (fun h_122 => ?_)
    · -- T 122
      refine s_iconst (v := 0) (q := 130) d_B_fact_129 rfl ki_0 ?_
      exact g_iret d_B_fact_130 rfl rfl (by simp only [faV]; first | (rw [bI_0] at h_122; rw [h_122]; rfl) | (rw [bI_n0] at h_122; rw [h_122]; rfl)) rfl
    · -- F 122
      refine s_iconst (v := 1) (q := 126) d_B_fact_125 rfl ki_1 ?_
      refine s_goto (tgt := 130) d_B_fact_126 (by decide) ?_
      exact g_iret d_B_fact_130 rfl rfl (by simp only [faV]; first | (rw [bI_0] at h_122; rw [h_122]; rfl) | (rw [bI_n0] at h_122; rw [h_122]; rfl)) rfl
  · skip
    refine Ct_of false (by decide) (fun h => by cases h) (Nat.le_of_ble_eq_true rfl) ?_
    show V l D ac b "SpanStore$Block" c_B_fact 2 (some .int) false 2 40 0 0 ((some (.int (faV X o 10))), 144, mk X) 0 0 0 [(0, .ref o), (1, .int (nI 10))] [] 144 (mk X)
    refine s_iload_n (q := 1) d_B_fact_0 rfl rfl ?_
    refine s_tsOut (tgt := 131) d_B_fact_1 (by decide) (by decide) ?_
    refine s_aload_n (q := 132) d_B_fact_131 rfl rfl (Or.inr ⟨_, rfl⟩) ?_
    refine s_iload_n (q := 133) d_B_fact_132 rfl rfl ?_
    refine s_bipush (v := 10) (q := 135) d_B_fact_133 rfl kb_10 ?_
    refine s_isub (q := 136) d_B_fact_135 rfl ?_
    refine g_callV (q := 139) d_B_fact_136 rfl ml_B_93 mx_B_groupSize mv_B_groupSize (t_B_groupSize (gg := 0) hB (by decide)) hB.1 rfl rfl (Nat.le_of_ble_eq_true rfl) (by decide) ?_
    exact g_iret d_B_fact_139 rfl rfl rfl rfl
  · skip
    refine Ct_of false (by decide) (fun h => by cases h) (Nat.le_of_ble_eq_true rfl) ?_
    show V l D ac b "SpanStore$Block" c_B_fact 2 (some .int) false 2 40 0 0 ((some (.int (faV X o 11))), 144, mk X) 0 0 0 [(0, .ref o), (1, .int (nI 11))] [] 144 (mk X)
    refine s_iload_n (q := 1) d_B_fact_0 rfl rfl ?_
    refine s_tsOut (tgt := 131) d_B_fact_1 (by decide) (by decide) ?_
    refine s_aload_n (q := 132) d_B_fact_131 rfl rfl (Or.inr ⟨_, rfl⟩) ?_
    refine s_iload_n (q := 133) d_B_fact_132 rfl rfl ?_
    refine s_bipush (v := 10) (q := 135) d_B_fact_133 rfl kb_10 ?_
    refine s_isub (q := 136) d_B_fact_135 rfl ?_
    refine g_callV (q := 139) d_B_fact_136 rfl ml_B_93 mx_B_groupSize mv_B_groupSize (t_B_groupSize (gg := 1) hB (by decide)) hB.1 rfl rfl (Nat.le_of_ble_eq_true rfl) (by decide) ?_
    exact g_iret d_B_fact_139 rfl rfl rfl rfl
  · skip
    refine Ct_of false (by decide) (fun h => by cases h) (Nat.le_of_ble_eq_true rfl) ?_
    show V l D ac b "SpanStore$Block" c_B_fact 2 (some .int) false 2 40 0 0 ((some (.int (faV X o 12))), 144, mk X) 0 0 0 [(0, .ref o), (1, .int (nI 12))] [] 144 (mk X)
    refine s_iload_n (q := 1) d_B_fact_0 rfl rfl ?_
    refine s_tsOut (tgt := 131) d_B_fact_1 (by decide) (by decide) ?_
    refine s_aload_n (q := 132) d_B_fact_131 rfl rfl (Or.inr ⟨_, rfl⟩) ?_
    refine s_iload_n (q := 133) d_B_fact_132 rfl rfl ?_
    refine s_bipush (v := 10) (q := 135) d_B_fact_133 rfl kb_10 ?_
    refine s_isub (q := 136) d_B_fact_135 rfl ?_
    refine g_callV (q := 139) d_B_fact_136 rfl ml_B_93 mx_B_groupSize mv_B_groupSize (t_B_groupSize (gg := 2) hB (by decide)) hB.1 rfl rfl (Nat.le_of_ble_eq_true rfl) (by decide) ?_
    exact g_iret d_B_fact_139 rfl rfl rfl rfl
  · skip
    refine Ct_of false (by decide) (fun h => by cases h) (Nat.le_of_ble_eq_true rfl) ?_
    show V l D ac b "SpanStore$Block" c_B_fact 2 (some .int) false 2 40 0 0 ((some (.int (faV X o 13))), 144, mk X) 0 0 0 [(0, .ref o), (1, .int (nI 13))] [] 144 (mk X)
    refine s_iload_n (q := 1) d_B_fact_0 rfl rfl ?_
    refine s_tsOut (tgt := 131) d_B_fact_1 (by decide) (by decide) ?_
    refine s_aload_n (q := 132) d_B_fact_131 rfl rfl (Or.inr ⟨_, rfl⟩) ?_
    refine s_iload_n (q := 133) d_B_fact_132 rfl rfl ?_
    refine s_bipush (v := 10) (q := 135) d_B_fact_133 rfl kb_10 ?_
    refine s_isub (q := 136) d_B_fact_135 rfl ?_
    refine g_callV (q := 139) d_B_fact_136 rfl ml_B_93 mx_B_groupSize mv_B_groupSize (t_B_groupSize (gg := 3) hB (by decide)) hB.1 rfl rfl (Nat.le_of_ble_eq_true rfl) (by decide) ?_
    exact g_iret d_B_fact_139 rfl rfl rfl rfl
def isF (w : Nat) : Bool := decide (w ≤ 7 ∨ 10 ≤ w ∧ w < 14)
def mfV (X : RAM) (o : Nat) (h : Int64) : Nat → Int64
  | 0 => h
  | w + 1 => if isF w = true then 31 * mfV X o h w + (faV X o w).toInt64 else mfV X o h w
def mrV (X : RAM) (o : Nat) (h : Int64) : Nat → Int64
  | 0 => h
  | i + 1 => if knP X o i = true then 31 * (31 * mrV X o h i + (nI i).toInt64) + (X (o + 3) i).toInt64 else mrV X o h i
def mxV (X : RAM) (o n : Nat) (h : Int64) : Int64 := mrV X o (mfV X o h 14) n
theorem isF_I {w : Nat} (hw : w < 14) : decide ((0 ≤ nI w ∧ nI w ≤ 7) ∨ (10 ≤ nI w ∧ nI w < 14)) = isF w := by
  unfold isF
  congr 1
  simp only [i_le, i_lt, tI_0, tI_7, tI_10, tI_14, nI_toInt (show w < 2 ^ 31 by omega), eq_iff_iff]
  omega
theorem lp_mixR {X : RAM} {o n : Nat} {h : Int64} (hB : isB o) (hsz : X o 5 = nI n) (hn : n ≤ 12) : ∀ i, i ≤ n → V l D ac b "SpanStore$Block" c_B_mixedInto 6 (some .long) false 3 61 0 0 ((some (.long (mxV X o n h))), 144, mk X) 0 0 41 [(0, .ref o), (1, .long h), (3, .long (mrV X o (mfV X o h 14) i)), (5, .int (nI i))] [] 144 (mk X) := by
  refine nat_down ?_ (fun i hi ih => ?_)
  · skip
    refine s_iload (q := 43) d_B_mixedInto_41 rfl rfl ?_
    refine s_aload_n (q := 44) d_B_mixedInto_43 rfl rfl (Or.inr ⟨_, rfl⟩) ?_
    refine g_getv (v := nI n) (q := 47) d_B_mixedInto_44 rfl fl_B_28 hB.1 rfl hsz ?_
    refine s_icmp_ge (tgt := 85) (q := 50) d_B_mixedInto_47 (by decide) rfl (fun _ => ?_) (fun z => absurd (nI_le (Nat.le_refl n) (by omega)) z)
    refine s_lload_n (q := 86) d_B_mixedInto_85 rfl rfl ?_
    exact g_lret d_B_mixedInto_86 rfl rfl rfl
  · skip
    refine s_iload (q := 43) d_B_mixedInto_41 rfl rfl ?_
    refine s_aload_n (q := 44) d_B_mixedInto_43 rfl rfl (Or.inr ⟨_, rfl⟩) ?_
    refine g_getv (v := nI n) (q := 47) d_B_mixedInto_44 rfl fl_B_28 hB.1 rfl hsz ?_
    refine s_icmp_ge (tgt := 85) (q := 50) d_B_mixedInto_47 (by decide) rfl (fun z => absurd z (nI_ge hi (by omega))) (fun _ => ?_)
    refine s_aload_n (q := 51) d_B_mixedInto_50 rfl rfl (Or.inr ⟨_, rfl⟩) ?_
    refine g_getr (q := 54) d_B_mixedInto_51 rfl fl_B_21 hB.1 rfl ?_
    refine s_iload (q := 56) d_B_mixedInto_54 rfl rfl ?_
    refine g_zald (q := 57) d_B_mixedInto_56 rfl hB.2.2.2.2.1 (by omega) rfl (by omega) ?_
    refine s_if_eq (tgt := 79) (q := 60) d_B_mixedInto_57 (by decide) rfl (fun h_57 => ?_) (fun h_57 => ?_)
    · -- T 57
      rw [show mrV X o (mfV X o h 14) (i + 1) = mrV X o (mfV X o h 14) i from by simp [mrV, knP, *]] at ih
      refine s_iinc (q := 82) d_B_mixedInto_79 rfl rfl (by first | exact inc1 _ | rfl) (by decide) ?_
      refine s_goto (tgt := 41) d_B_mixedInto_82 (by decide) ?_
      exact s_lv (lv' := [(0, .ref o), (1, .long h), (3, .long _), (5, .int (nI (i + 1)))]) ⟨rfl, rfl, rfl, rfl, trivial⟩ ih
    · -- F 57
      rw [show mrV X o (mfV X o h 14) (i + 1) = 31 * (31 * mrV X o (mfV X o h 14) i + (nI i).toInt64) + (X (o + 3) i).toInt64 from by simp [mrV, knP, *]] at ih
      refine s_lload_n (q := 61) d_B_mixedInto_60 rfl rfl ?_
      refine s_iload (q := 63) d_B_mixedInto_61 rfl rfl ?_
      refine s_i2l (q := 64) d_B_mixedInto_63 rfl ?_
      refine g_callN (q := 67) d_B_mixedInto_64 rfl (by decide) mx_C_mixed ms_C_mixed t_C_mixed rfl rfl (Nat.le_of_ble_eq_true rfl) (by decide) ?_
      refine s_aload_n (q := 68) d_B_mixedInto_67 rfl rfl (Or.inr ⟨_, rfl⟩) ?_
      refine g_getr (q := 71) d_B_mixedInto_68 rfl fl_B_18 hB.1 rfl ?_
      refine s_iload (q := 73) d_B_mixedInto_71 rfl rfl ?_
      refine g_iald (q := 74) d_B_mixedInto_73 rfl hB.2.2.2.1 (by omega) rfl (by omega) ?_
      refine s_i2l (q := 75) d_B_mixedInto_74 rfl ?_
      refine g_callN (q := 78) d_B_mixedInto_75 rfl (by decide) mx_C_mixed ms_C_mixed t_C_mixed rfl rfl (Nat.le_of_ble_eq_true rfl) (by decide) ?_
      refine s_lstore_n (q := 79) d_B_mixedInto_78 rfl (by decide) ?_
      refine s_iinc (q := 82) d_B_mixedInto_79 rfl rfl (by first | exact inc1 _ | rfl) (by decide) ?_
      refine s_goto (tgt := 41) d_B_mixedInto_82 (by decide) ?_
      exact s_lv (lv' := [(0, .ref o), (1, .long h), (3, .long _), (5, .int (nI (i + 1)))]) ⟨rfl, rfl, rfl, rfl, trivial⟩ ih
theorem lp_mixF {X : RAM} {o n : Nat} {h : Int64} (hB : isB o) (hsz : X o 5 = nI n) (hn : n ≤ 12) : ∀ i, i ≤ 14 → V l D ac b "SpanStore$Block" c_B_mixedInto 6 (some .long) false 3 61 0 0 ((some (.long (mxV X o n h))), 144, mk X) 0 0 5 [(0, .ref o), (1, .long h), (3, .long (mfV X o h i)), (5, .int (nI i))] [] 144 (mk X) := by
  refine nat_down ?_ (fun i hi ih => ?_)
  · skip
    refine s_iload (q := 7) d_B_mixedInto_5 rfl rfl ?_
    refine s_bipush (v := 14) (q := 9) d_B_mixedInto_7 rfl kb_14 ?_
    refine s_icmp_ge (tgt := 38) (q := 12) d_B_mixedInto_9 (by decide) rfl (fun _ => ?_) (fun z => absurd (by decide) z)
    refine s_iconst (v := 0) (q := 39) d_B_mixedInto_38 rfl ki_0 ?_
    refine s_istore (q := 41) d_B_mixedInto_39 rfl (by decide) ?_
    exact s_lv (lv' := [(0, .ref o), (1, .long h), (3, .long (mrV X o (mfV X o h 14) 0)), (5, .int (nI 0))]) ⟨rfl, rfl, rfl, rfl, trivial⟩ (lp_mixR hB hsz hn 0 (Nat.zero_le n))
  · skip
    refine s_iload (q := 7) d_B_mixedInto_5 rfl rfl ?_
    refine s_bipush (v := 14) (q := 9) d_B_mixedInto_7 rfl kb_14 ?_
    refine s_icmp_ge (tgt := 38) (q := 12) d_B_mixedInto_9 (by decide) rfl (fun z => absurd z (nI_ge (a := i) (b := 14) hi (by decide))) (fun _ => ?_)
    refine s_iload (q := 14) d_B_mixedInto_12 rfl rfl ?_
    refine g_callN (q := 17) d_B_mixedInto_14 rfl (by decide) mx_C_isFact ms_C_isFact t_C_isFact rfl rfl (Nat.le_of_ble_eq_true rfl) (by decide) ?_
    refine s_if_eq (tgt := 32) (q := 20) d_B_mixedInto_17 (by decide) rfl (fun h_17 => ?_) (fun h_17 => ?_)
    · -- T 17
      rw [isF_I hi, bI_0] at h_17
      rw [show mfV X o h (i + 1) = mfV X o h i from by simp [mfV, *]] at ih
      refine s_iinc (q := 35) d_B_mixedInto_32 rfl rfl (by first | exact inc1 _ | rfl) (by decide) ?_
      refine s_goto (tgt := 5) d_B_mixedInto_35 (by decide) ?_
      exact s_lv (lv' := [(0, .ref o), (1, .long h), (3, .long _), (5, .int (nI (i + 1)))]) ⟨rfl, rfl, rfl, rfl, trivial⟩ ih
    · -- F 17
      rw [isF_I hi, bI_n0] at h_17
      rw [show mfV X o h (i + 1) = 31 * mfV X o h i + (faV X o i).toInt64 from by simp [mfV, *]] at ih
      refine s_lload_n (q := 21) d_B_mixedInto_20 rfl rfl ?_
      refine s_aload_n (q := 22) d_B_mixedInto_21 rfl rfl (Or.inr ⟨_, rfl⟩) ?_
      refine s_iload (q := 24) d_B_mixedInto_22 rfl rfl ?_
      refine g_callV (q := 27) d_B_mixedInto_24 rfl ml_B_121 mx_B_fact mv_B_fact (t_B_fact (w := i) hB (by simpa [isF] using h_17)) hB.1 rfl rfl (Nat.le_of_ble_eq_true rfl) (by decide) ?_
      refine s_i2l (q := 28) d_B_mixedInto_27 rfl ?_
      refine g_callN (q := 31) d_B_mixedInto_28 rfl (by decide) mx_C_mixed ms_C_mixed t_C_mixed rfl rfl (Nat.le_of_ble_eq_true rfl) (by decide) ?_
      refine s_lstore_n (q := 32) d_B_mixedInto_31 rfl (by decide) ?_
      refine s_iinc (q := 35) d_B_mixedInto_32 rfl rfl (by first | exact inc1 _ | rfl) (by decide) ?_
      refine s_goto (tgt := 5) d_B_mixedInto_35 (by decide) ?_
      exact s_lv (lv' := [(0, .ref o), (1, .long h), (3, .long _), (5, .int (nI (i + 1)))]) ⟨rfl, rfl, rfl, rfl, trivial⟩ ih
theorem t_B_mixedInto {X : RAM} {o n : Nat} {h : Int64} (hB : isB o) (hsz : X o 5 = nI n) (hn : n ≤ 12) : CG l D ac b y_B_mixedInto c_B_mixedInto 6 (some .long) 3 61 [.ref o, .long h] X (some (.long (mxV X o n h))) (X) := by
  refine Ct_of false (by decide) (fun h => by cases h) (Nat.le_of_ble_eq_true rfl) ?_
  show V l D ac b "SpanStore$Block" c_B_mixedInto 6 (some .long) false 3 61 0 0 ((some (.long (mxV X o n h))), 144, mk (X)) 0 0 0 [(0, .ref o), (1, .long h)] [] 144 (mk X)
  refine s_lload_n (q := 1) d_B_mixedInto_0 rfl rfl ?_
  refine s_lstore_n (q := 2) d_B_mixedInto_1 rfl (by decide) ?_
  refine s_iconst (v := 0) (q := 3) d_B_mixedInto_2 rfl ki_0 ?_
  refine s_istore (q := 5) d_B_mixedInto_3 rfl (by decide) ?_
  exact s_lv (lv' := [(0, .ref o), (1, .long h), (3, .long (mfV X o h 0)), (5, .int (nI 0))]) ⟨rfl, rfl, rfl, rfl, trivial⟩ (lp_mixF hB hsz hn 0 (Nat.zero_le 14))
def absI (v : Int32) : Int32 := if 0 ≤ v then v else 0 - v
def kpV (X : RAM) (ko o k : Nat) : Bool := if X ko 0 = 0 then decide (0 < X ko 1 ∧ remI (nI k) (X ko 1) = 0) else if X ko 0 = 1 then decide (nI (cntB (eqG X o k) k) < X ko 1) else if X ko 0 = 2 then decide (0 < X ko 1 ∧ remI (X (o + 1) k) (X ko 1) = X ko 2) else if X ko 0 = 3 then decide (¬ absI (X (o + 3) k) < X ko 1) else false
theorem t_K_keeps {X : RAM} {ko o n k : Nat} (hK : isK ko) (hB : isB o) (hsz : X o 5 = nI n) (hn : n ≤ 12) (hk : k < n) : CG l D ac b y_K_keeps c_K_keeps 3 (some .boolean) 1 23 [.ref ko, .ref o, .int (nI k)] X (some (.int (bI (kpV X ko o k)))) X := by
  refine Ct_of false (by decide) (fun h => by cases h) (Nat.le_of_ble_eq_true rfl) ?_
  show V l D ac b "SpanStore$Keeper" c_K_keeps 3 (some .boolean) false 1 23 0 0 ((some (.int (bI (kpV X ko o k)))), 144, mk X) 0 0 0 [(0, .ref ko), (1, .ref o), (2, .int (nI k))] [] 144 (mk X)
  by_cases k0 : X ko 0 = 0
  · skip
    refine s_aload_n (q := 1) d_K_keeps_0 rfl rfl (Or.inr ⟨_, rfl⟩) ?_
    refine s_iload_n (q := 2) d_K_keeps_1 rfl rfl ?_
    refine g_callV (q := 5) d_K_keeps_2 rfl ml_K_21 mx_B_hasRow mv_B_hasRow (t_B_hasRow hB) hB.1 rfl rfl (Nat.le_of_ble_eq_true rfl) (by decide) ?_
    refine s_if_ne (tgt := 10) (q := 8) d_K_keeps_5 (by decide) rfl (fun _ => ?_) (fun z => absurd z (hr_t hsz hk hn))
    refine s_aload_n (q := 11) d_K_keeps_10 rfl rfl (Or.inr ⟨_, rfl⟩) ?_
    refine g_getv (v := 0) (q := 14) d_K_keeps_11 rfl fl_K_9 hK rfl k0 ?_
    refine s_tsIn (tgt := 44) d_K_keeps_14 (by decide) (by decide) rfl (by decide) ?_
    refine s_iload_n (q := 45) d_K_keeps_44 rfl rfl ?_
    refine s_aload_n (q := 46) d_K_keeps_45 rfl rfl (Or.inr ⟨_, rfl⟩) ?_
    refine g_geti (q := 49) d_K_keeps_46 rfl fl_K_15 hK rfl ?_
    refine s_iconst (v := 0) (q := 50) d_K_keeps_49 rfl ki_0 ?_
    refine g_callN (q := 53) d_K_keeps_50 rfl (by decide) mx_C_isCongruent ms_C_isCongruent t_C_isCongruent rfl rfl (Nat.le_of_ble_eq_true rfl) (by decide) ?_
    exact g_iret d_K_keeps_53 rfl (nbI _) (by simp [kpV, k0]) rfl
  by_cases k1 : X ko 0 = 1
  · skip
    refine s_aload_n (q := 1) d_K_keeps_0 rfl rfl (Or.inr ⟨_, rfl⟩) ?_
    refine s_iload_n (q := 2) d_K_keeps_1 rfl rfl ?_
    refine g_callV (q := 5) d_K_keeps_2 rfl ml_K_21 mx_B_hasRow mv_B_hasRow (t_B_hasRow hB) hB.1 rfl rfl (Nat.le_of_ble_eq_true rfl) (by decide) ?_
    refine s_if_ne (tgt := 10) (q := 8) d_K_keeps_5 (by decide) rfl (fun _ => ?_) (fun z => absurd z (hr_t hsz hk hn))
    refine s_aload_n (q := 11) d_K_keeps_10 rfl rfl (Or.inr ⟨_, rfl⟩) ?_
    refine g_getv (v := 1) (q := 14) d_K_keeps_11 rfl fl_K_9 hK rfl k1 ?_
    refine s_tsIn (tgt := 54) d_K_keeps_14 (by decide) (by decide) rfl (by decide) ?_
    refine s_aload_n (q := 55) d_K_keeps_54 rfl rfl (Or.inr ⟨_, rfl⟩) ?_
    refine s_iload_n (q := 56) d_K_keeps_55 rfl rfl ?_
    refine g_callV (q := 59) d_K_keeps_56 rfl ml_K_31 mx_B_earlierOfItsGroup mv_B_earlierOfItsGroup (t_B_earlier hB hsz hn hk) hB.1 rfl rfl (Nat.le_of_ble_eq_true rfl) (by decide) ?_
    refine s_aload_n (q := 60) d_K_keeps_59 rfl rfl (Or.inr ⟨_, rfl⟩) ?_
    refine g_geti (q := 63) d_K_keeps_60 rfl fl_K_15 hK rfl ?_
    refine s_icmp_ge (tgt := 70) (q := 66) d_K_keeps_63 (by decide) rfl (fun h_63 => ?_) (fun h_63 => ?_)
    · -- T 63
      refine s_iconst (v := 0) (q := 71) d_K_keeps_70 rfl ki_0 ?_
      exact g_iret d_K_keeps_71 rfl rfl (by simp [kpV, bI, k0, k1, h_63]) rfl
    · -- F 63
      refine s_iconst (v := 1) (q := 67) d_K_keeps_66 rfl ki_1 ?_
      refine s_goto (tgt := 71) d_K_keeps_67 (by decide) ?_
      exact g_iret d_K_keeps_71 rfl rfl (by simp [kpV, bI, k0, k1, h_63]) rfl
  by_cases k2 : X ko 0 = 2
  · skip
    refine s_aload_n (q := 1) d_K_keeps_0 rfl rfl (Or.inr ⟨_, rfl⟩) ?_
    refine s_iload_n (q := 2) d_K_keeps_1 rfl rfl ?_
    refine g_callV (q := 5) d_K_keeps_2 rfl ml_K_21 mx_B_hasRow mv_B_hasRow (t_B_hasRow hB) hB.1 rfl rfl (Nat.le_of_ble_eq_true rfl) (by decide) ?_
    refine s_if_ne (tgt := 10) (q := 8) d_K_keeps_5 (by decide) rfl (fun _ => ?_) (fun z => absurd z (hr_t hsz hk hn))
    refine s_aload_n (q := 11) d_K_keeps_10 rfl rfl (Or.inr ⟨_, rfl⟩) ?_
    refine g_getv (v := 2) (q := 14) d_K_keeps_11 rfl fl_K_9 hK rfl k2 ?_
    refine s_tsIn (tgt := 72) d_K_keeps_14 (by decide) (by decide) rfl (by decide) ?_
    refine s_aload_n (q := 73) d_K_keeps_72 rfl rfl (Or.inr ⟨_, rfl⟩) ?_
    refine g_getr (q := 76) d_K_keeps_73 rfl fl_K_35 hB.1 rfl ?_
    refine s_iload_n (q := 77) d_K_keeps_76 rfl rfl ?_
    refine g_iald (q := 78) d_K_keeps_77 rfl hB.2.1 (by omega) rfl (by omega) ?_
    refine s_aload_n (q := 79) d_K_keeps_78 rfl rfl (Or.inr ⟨_, rfl⟩) ?_
    refine g_geti (q := 82) d_K_keeps_79 rfl fl_K_15 hK rfl ?_
    refine s_aload_n (q := 83) d_K_keeps_82 rfl rfl (Or.inr ⟨_, rfl⟩) ?_
    refine g_geti (q := 86) d_K_keeps_83 rfl fl_K_18 hK rfl ?_
    refine g_callN (q := 89) d_K_keeps_86 rfl (by decide) mx_C_isCongruent ms_C_isCongruent t_C_isCongruent rfl rfl (Nat.le_of_ble_eq_true rfl) (by decide) ?_
    exact g_iret d_K_keeps_89 rfl (nbI _) (by simp [kpV, k0, k1, k2]) rfl
  by_cases k3 : X ko 0 = 3
  · skip
    refine s_aload_n (q := 1) d_K_keeps_0 rfl rfl (Or.inr ⟨_, rfl⟩) ?_
    refine s_iload_n (q := 2) d_K_keeps_1 rfl rfl ?_
    refine g_callV (q := 5) d_K_keeps_2 rfl ml_K_21 mx_B_hasRow mv_B_hasRow (t_B_hasRow hB) hB.1 rfl rfl (Nat.le_of_ble_eq_true rfl) (by decide) ?_
    refine s_if_ne (tgt := 10) (q := 8) d_K_keeps_5 (by decide) rfl (fun _ => ?_) (fun z => absurd z (hr_t hsz hk hn))
    refine s_aload_n (q := 11) d_K_keeps_10 rfl rfl (Or.inr ⟨_, rfl⟩) ?_
    refine g_getv (v := 3) (q := 14) d_K_keeps_11 rfl fl_K_9 hK rfl k3 ?_
    refine s_tsIn (tgt := 90) d_K_keeps_14 (by decide) (by decide) rfl (by decide) ?_
    refine s_aload_n (q := 91) d_K_keeps_90 rfl rfl (Or.inr ⟨_, rfl⟩) ?_
    refine g_getr (q := 94) d_K_keeps_91 rfl fl_K_39 hB.1 rfl ?_
    refine s_iload_n (q := 95) d_K_keeps_94 rfl rfl ?_
    refine g_iald (q := 96) d_K_keeps_95 rfl hB.2.2.2.1 (by omega) rfl (by omega) ?_
    refine s_abs (q := 99) d_K_keeps_96 rfl ml_K_42 (Nat.le_of_ble_eq_true rfl) (by decide) (by decide) ⟨Nat.le_refl _, Nat.le_refl _⟩ ?_
    rw [show (if 0 ≤ X (o + 3) k then X (o + 3) k else 0 - X (o + 3) k) = absI (X (o + 3) k) from rfl]
    refine s_aload_n (q := 100) d_K_keeps_99 rfl rfl (Or.inr ⟨_, rfl⟩) ?_
    refine g_geti (q := 103) d_K_keeps_100 rfl fl_K_15 hK rfl ?_
    refine s_icmp_lt (tgt := 110) (q := 106) d_K_keeps_103 (by decide) rfl (fun h_103 => ?_) (fun h_103 => ?_)
    · -- T 103
      refine s_iconst (v := 0) (q := 111) d_K_keeps_110 rfl ki_0 ?_
      exact g_iret d_K_keeps_111 rfl rfl (by simp [kpV, bI, k0, k1, k2, k3, h_103]) rfl
    · -- F 103
      refine s_iconst (v := 1) (q := 107) d_K_keeps_106 rfl ki_1 ?_
      refine s_goto (tgt := 111) d_K_keeps_107 (by decide) ?_
      exact g_iret d_K_keeps_111 rfl rfl (by simp [kpV, bI, k0, k1, k2, k3, h_103]) rfl
  · skip
    refine s_aload_n (q := 1) d_K_keeps_0 rfl rfl (Or.inr ⟨_, rfl⟩) ?_
    refine s_iload_n (q := 2) d_K_keeps_1 rfl rfl ?_
    refine g_callV (q := 5) d_K_keeps_2 rfl ml_K_21 mx_B_hasRow mv_B_hasRow (t_B_hasRow hB) hB.1 rfl rfl (Nat.le_of_ble_eq_true rfl) (by decide) ?_
    refine s_if_ne (tgt := 10) (q := 8) d_K_keeps_5 (by decide) rfl (fun _ => ?_) (fun z => absurd z (hr_t hsz hk hn))
    refine s_aload_n (q := 11) d_K_keeps_10 rfl rfl (Or.inr ⟨_, rfl⟩) ?_
    refine g_geti (q := 14) d_K_keeps_11 rfl fl_K_9 hK rfl ?_
    refine s_tsOut (tgt := 112) d_K_keeps_14 (by rw [i_eq, tI_0] at k0; rw [i_eq, tI_1] at k1; rw [i_eq, tI_2] at k2; rw [i_eq, tI_3] at k3; omega) (by decide) ?_
    refine s_iconst (v := 0) (q := 113) d_K_keeps_112 rfl ki_0 ?_
    exact g_iret d_K_keeps_113 rfl rfl (by simp [kpV, bI, k0, k1, k2, k3]) rfl
def st3 (Y : RAM) (s1 s2 s3 it : Nat) (a1 a2 a3 : Int32) : RAM := up2 (up2 (up2 Y (s1 + 1) it (cutV (Y s1 1) a1)) (s2 + 1) it (cutV (Y s2 1) a2)) (s3 + 1) it (cutV (Y s3 1) a3)
def wkS (X : RAM) (o s1 s2 s3 rm it0 : Nat) : Nat → RAM × Nat
  | 0 => (X, it0)
  | i + 1 => if (wkS X o s1 s2 s3 rm it0 i).2 < rm ∧ knP X o i = true then (st3 (wkS X o s1 s2 s3 rm it0 i).1 s1 s2 s3 (wkS X o s1 s2 s3 rm it0 i).2 (X (o + 1) i) (X (o + 2) i) (X (o + 3) i), (wkS X o s1 s2 s3 rm it0 i).2 + 1) else wkS X o s1 s2 s3 rm it0 i
theorem st3_ne {Y : RAM} {s1 s2 s3 it a : Nat} {a1 a2 a3 : Int32} (h1 : a ≠ s1 + 1) (h2 : a ≠ s2 + 1) (h3 : a ≠ s3 + 1) : st3 Y s1 s2 s3 it a1 a2 a3 a = Y a := by
  unfold st3
  rw [up2_ne h3, up2_ne h2, up2_ne h1]
theorem wkS_ne {X : RAM} {o s1 s2 s3 rm it0 a : Nat} (h1 : a ≠ s1 + 1) (h2 : a ≠ s2 + 1) (h3 : a ≠ s3 + 1) (i : Nat) : (wkS X o s1 s2 s3 rm it0 i).1 a = X a := by
  induction i with
  | zero => rfl
  | succ i ih =>
    unfold wkS
    split
    · exact (st3_ne h1 h2 h3).trans ih
    · exact ih
theorem wkS_stay {X : RAM} {o s1 s2 s3 rm it0 i : Nat} (h : rm ≤ (wkS X o s1 s2 s3 rm it0 i).2) (d : Nat) : wkS X o s1 s2 s3 rm it0 (i + d) = wkS X o s1 s2 s3 rm it0 i := by
  induction d with
  | zero => rfl
  | succ d ih =>
    rw [show i + (d + 1) = (i + d) + 1 by omega, wkS, ih, if_neg (by omega)]
theorem wkS_le {X : RAM} {o s1 s2 s3 rm it0 : Nat} (h : it0 ≤ 40) (hr : rm ≤ 40) (i : Nat) : (wkS X o s1 s2 s3 rm it0 i).2 ≤ 40 := by
  induction i with
  | zero => exact h
  | succ i ih =>
    unfold wkS
    split
    · show _ + 1 ≤ 40; omega
    · exact ih
def min3 (a b c : Nat) : Nat := min a (min b c)
theorem mn2 {a b : Nat} (ha : a ≤ 40) (hb : b ≤ 40) : (if nI b < nI a then nI b else nI a) = nI (min a b) := by
  by_cases h : b < a
  · rw [if_pos ((nI_ltI (by omega) (by omega)).mpr h), Nat.min_eq_right (by omega)]
  · rw [if_neg (fun z => h ((nI_ltI (by omega) (by omega)).mp z)), Nat.min_eq_left (by omega)]
theorem min3_1 {a b c k : Nat} (h : k < min3 a b c) : k < a ∧ k < b ∧ k < c := by unfold min3 at h; omega
theorem lp_write {X : RAM} {o n s1 s2 s3 n1 n2 n3 it0 : Nat} (hB : isB o) (hsz : X o 5 = nI n) (hn : n ≤ 12) (h1 : isS s1) (h2 : isS s2) (h3 : isS s3) (z1 : X s1 2 = nI n1) (z2 : X s2 2 = nI n2) (z3 : X s3 2 = nI n3) (m1 : n1 ≤ 40) (m2 : n2 ≤ 40) (m3 : n3 ≤ 40) (hit : it0 ≤ 40) (hlo : o + 5 < 114) (g1 : 114 ≤ s1 ∧ s1 % 2 = 0) (g2 : 114 ≤ s2 ∧ s2 % 2 = 0) (g3 : 114 ≤ s3 ∧ s3 % 2 = 0) : ∀ i, i ≤ n → V l D ac b "SpanStore$Block" c_B_writeKnown 8 (some .int) false 2 43 0 0 ((some (.int (nI (wkS X o s1 s2 s3 (min3 n1 n2 n3) it0 n).2))), 144, mk (wkS X o s1 s2 s3 (min3 n1 n2 n3) it0 n).1) 0 0 27 [(0, .ref o), (1, .ref s1), (2, .ref s2), (3, .ref s3), (4, .int (nI it0)), (5, .int (nI (min3 n1 n2 n3))), (6, .int (nI (wkS X o s1 s2 s3 (min3 n1 n2 n3) it0 i).2)), (7, .int (nI i))] [] 144 (mk (wkS X o s1 s2 s3 (min3 n1 n2 n3) it0 i).1) := by
  have hrm : min3 n1 n2 n3 ≤ 40 := by unfold min3; omega
  refine nat_down ?_ (fun i hi ih => ?_)
  · skip
    refine s_iload (q := 29) d_B_writeKnown_27 rfl rfl ?_
    refine s_aload_n (q := 30) d_B_writeKnown_29 rfl rfl (Or.inr ⟨_, rfl⟩) ?_
    refine g_getv (v := nI n) (q := 33) d_B_writeKnown_30 rfl fl_B_28 hB.1 rfl (by rw [wkS_ne (by omega) (by omega) (by omega), hsz]) ?_
    refine s_icmp_ge (tgt := 101) (q := 36) d_B_writeKnown_33 (by decide) rfl (fun _ => ?_) (fun z => absurd (nI_le (Nat.le_refl n) (by omega)) z)
    refine s_iload (q := 103) d_B_writeKnown_101 rfl rfl ?_
    exact g_iret d_B_writeKnown_103 rfl rfl rfl rfl
  · skip
    refine s_iload (q := 29) d_B_writeKnown_27 rfl rfl ?_
    refine s_aload_n (q := 30) d_B_writeKnown_29 rfl rfl (Or.inr ⟨_, rfl⟩) ?_
    refine g_getv (v := nI n) (q := 33) d_B_writeKnown_30 rfl fl_B_28 hB.1 rfl (by rw [wkS_ne (by omega) (by omega) (by omega), hsz]) ?_
    refine s_icmp_ge (tgt := 101) (q := 36) d_B_writeKnown_33 (by decide) rfl (fun z => absurd z (nI_ge hi (by omega))) (fun _ => ?_)
    refine s_iload (q := 38) d_B_writeKnown_36 rfl rfl ?_
    refine s_iload (q := 40) d_B_writeKnown_38 rfl rfl ?_
    refine s_icmp_ge (tgt := 101) (q := 43) d_B_writeKnown_40 (by decide) rfl (fun h_40 => ?_) (fun h_40 => ?_)
    · -- T 40
      have hst : wkS X o s1 s2 s3 (min3 n1 n2 n3) it0 n = (wkS X o s1 s2 s3 (min3 n1 n2 n3) it0 i) := by
        rw [show n = i + (n - i) by omega]
        exact wkS_stay (by rcases Nat.lt_or_ge (wkS X o s1 s2 s3 (min3 n1 n2 n3) it0 i).2 (min3 n1 n2 n3) with q | q
                           · exact absurd h_40 (nI_ge q (by omega))
                           · exact q) _
      refine s_iload (q := 103) d_B_writeKnown_101 rfl rfl ?_
      exact g_iret d_B_writeKnown_103 rfl rfl (by rw [hst]) (by rw [hst])
    · -- F 40
      have hlt : (wkS X o s1 s2 s3 (min3 n1 n2 n3) it0 i).2 < min3 n1 n2 n3 := by
        rcases Nat.lt_or_ge (wkS X o s1 s2 s3 (min3 n1 n2 n3) it0 i).2 (min3 n1 n2 n3) with q | q
        · exact q
        · exact absurd (nI_le q (by have := wkS_le (X := X) (o := o) (s1 := s1) (s2 := s2) (s3 := s3) (rm := min3 n1 n2 n3) hit hrm i; omega)) h_40
      obtain ⟨hl1, hl2, hl3⟩ := min3_1 hlt
      refine s_aload_n (q := 44) d_B_writeKnown_43 rfl rfl (Or.inr ⟨_, rfl⟩) ?_
      refine g_getr (q := 47) d_B_writeKnown_44 rfl fl_B_21 hB.1 rfl ?_
      refine s_iload (q := 49) d_B_writeKnown_47 rfl rfl ?_
      refine g_zalv (v := X (o + 4) i) (q := 50) d_B_writeKnown_49 rfl hB.2.2.2.2.1 (by omega) rfl (by omega) (by rw [wkS_ne (by omega) (by omega) (by omega)]) ?_
      refine s_if_eq (tgt := 95) (q := 53) d_B_writeKnown_50 (by decide) rfl (fun h_50 => ?_) (fun h_50 => ?_)
      · -- T 50
        have e1 : wkS X o s1 s2 s3 (min3 n1 n2 n3) it0 (i + 1) = (wkS X o s1 s2 s3 (min3 n1 n2 n3) it0 i) := by
          rw [wkS, if_neg (fun z => by simp [knP, h_50] at z)]
        rw [e1] at ih
        refine s_iinc (q := 98) d_B_writeKnown_95 rfl rfl (by first | exact inc1 _ | rfl) (by decide) ?_
        refine s_goto (tgt := 27) d_B_writeKnown_98 (by decide) ?_
        exact s_lv (lv' := [(0, .ref o), (1, .ref s1), (2, .ref s2), (3, .ref s3), (4, .int (nI it0)), (5, .int (nI (min3 n1 n2 n3))), (6, .int (nI _)), (7, .int (nI (i + 1)))]) ⟨rfl, rfl, rfl, rfl, rfl, rfl, rfl, rfl, trivial⟩ ih
      · -- F 50
        have e1 : wkS X o s1 s2 s3 (min3 n1 n2 n3) it0 (i + 1) = (st3 (wkS X o s1 s2 s3 (min3 n1 n2 n3) it0 i).1 s1 s2 s3 (wkS X o s1 s2 s3 (min3 n1 n2 n3) it0 i).2 (X (o + 1) i) (X (o + 2) i) (X (o + 3) i), (wkS X o s1 s2 s3 (min3 n1 n2 n3) it0 i).2 + 1) := by
          rw [wkS, if_pos ⟨hlt, by simp [knP, h_50]⟩]
        rw [e1] at ih
        refine s_aload_n (q := 54) d_B_writeKnown_53 rfl rfl (Or.inr ⟨_, rfl⟩) ?_
        refine s_iload (q := 56) d_B_writeKnown_54 rfl rfl ?_
        refine s_aload_n (q := 57) d_B_writeKnown_56 rfl rfl (Or.inr ⟨_, rfl⟩) ?_
        refine g_getr (q := 60) d_B_writeKnown_57 rfl fl_B_9 hB.1 rfl ?_
        refine s_iload (q := 62) d_B_writeKnown_60 rfl rfl ?_
        refine g_ialv (v := X (o + 1) i) (q := 63) d_B_writeKnown_62 rfl hB.2.1 (by omega) rfl (by omega) (by rw [wkS_ne (by omega) (by omega) (by omega)]) ?_
        refine g_callV (q := 66) d_B_writeKnown_63 rfl ml_B_114 mx_S_store mv_S_store (t_S_store (k := (wkS X o s1 s2 s3 (min3 n1 n2 n3) it0 i).2) h1 (n := n1) (by (repeat rw [up2_ne (by omega)]); rw [wkS_ne (by omega) (by omega) (by omega), z1]) hl1 m1) h1.1 rfl rfl (Nat.le_of_ble_eq_true rfl) (by decide) ?_
        refine s_aload_n (q := 67) d_B_writeKnown_66 rfl rfl (Or.inr ⟨_, rfl⟩) ?_
        refine s_iload (q := 69) d_B_writeKnown_67 rfl rfl ?_
        refine s_aload_n (q := 70) d_B_writeKnown_69 rfl rfl (Or.inr ⟨_, rfl⟩) ?_
        refine g_getr (q := 73) d_B_writeKnown_70 rfl fl_B_15 hB.1 rfl ?_
        refine s_iload (q := 75) d_B_writeKnown_73 rfl rfl ?_
        refine g_ialv (v := X (o + 2) i) (q := 76) d_B_writeKnown_75 rfl hB.2.2.1 (by omega) rfl (by omega) (by rw [up2_ne (by omega), wkS_ne (by omega) (by omega) (by omega)]) ?_
        refine g_callV (q := 79) d_B_writeKnown_76 rfl ml_B_114 mx_S_store mv_S_store (t_S_store (k := (wkS X o s1 s2 s3 (min3 n1 n2 n3) it0 i).2) h2 (n := n2) (by (repeat rw [up2_ne (by omega)]); rw [wkS_ne (by omega) (by omega) (by omega), z2]) hl2 m2) h2.1 rfl rfl (Nat.le_of_ble_eq_true rfl) (by decide) ?_
        refine s_aload_n (q := 80) d_B_writeKnown_79 rfl rfl (Or.inr ⟨_, rfl⟩) ?_
        refine s_iload (q := 82) d_B_writeKnown_80 rfl rfl ?_
        refine s_aload_n (q := 83) d_B_writeKnown_82 rfl rfl (Or.inr ⟨_, rfl⟩) ?_
        refine g_getr (q := 86) d_B_writeKnown_83 rfl fl_B_18 hB.1 rfl ?_
        refine s_iload (q := 88) d_B_writeKnown_86 rfl rfl ?_
        refine g_ialv (v := X (o + 3) i) (q := 89) d_B_writeKnown_88 rfl hB.2.2.2.1 (by omega) rfl (by omega) (by rw [up2_ne (by omega), up2_ne (by omega), wkS_ne (by omega) (by omega) (by omega)]) ?_
        refine g_callV (q := 92) d_B_writeKnown_89 rfl ml_B_114 mx_S_store mv_S_store (t_S_store (k := (wkS X o s1 s2 s3 (min3 n1 n2 n3) it0 i).2) h3 (n := n3) (by (repeat rw [up2_ne (by omega)]); rw [wkS_ne (by omega) (by omega) (by omega), z3]) hl3 m3) h3.1 rfl rfl (Nat.le_of_ble_eq_true rfl) (by decide) ?_
        rw [show up2 (up2 (up2 (wkS X o s1 s2 s3 (min3 n1 n2 n3) it0 i).1 (s1 + 1) (wkS X o s1 s2 s3 (min3 n1 n2 n3) it0 i).2 (cutV ((wkS X o s1 s2 s3 (min3 n1 n2 n3) it0 i).1 s1 1) (X (o + 1) i))) (s2 + 1) (wkS X o s1 s2 s3 (min3 n1 n2 n3) it0 i).2 (cutV (up2 (wkS X o s1 s2 s3 (min3 n1 n2 n3) it0 i).1 (s1 + 1) (wkS X o s1 s2 s3 (min3 n1 n2 n3) it0 i).2 (cutV ((wkS X o s1 s2 s3 (min3 n1 n2 n3) it0 i).1 s1 1) (X (o + 1) i)) s2 1) (X (o + 2) i))) (s3 + 1) (wkS X o s1 s2 s3 (min3 n1 n2 n3) it0 i).2 (cutV (up2 (up2 (wkS X o s1 s2 s3 (min3 n1 n2 n3) it0 i).1 (s1 + 1) (wkS X o s1 s2 s3 (min3 n1 n2 n3) it0 i).2 (cutV ((wkS X o s1 s2 s3 (min3 n1 n2 n3) it0 i).1 s1 1) (X (o + 1) i))) (s2 + 1) (wkS X o s1 s2 s3 (min3 n1 n2 n3) it0 i).2 (cutV (up2 (wkS X o s1 s2 s3 (min3 n1 n2 n3) it0 i).1 (s1 + 1) (wkS X o s1 s2 s3 (min3 n1 n2 n3) it0 i).2 (cutV ((wkS X o s1 s2 s3 (min3 n1 n2 n3) it0 i).1 s1 1) (X (o + 1) i)) s2 1) (X (o + 2) i)) s3 1) (X (o + 3) i)) = st3 (wkS X o s1 s2 s3 (min3 n1 n2 n3) it0 i).1 s1 s2 s3 (wkS X o s1 s2 s3 (min3 n1 n2 n3) it0 i).2 (X (o + 1) i) (X (o + 2) i) (X (o + 3) i) from by unfold st3; rw [up2_ne (show s2 ≠ s1 + 1 by omega), up2_ne (show s3 ≠ s2 + 1 by omega), up2_ne (show s3 ≠ s1 + 1 by omega)]]
        refine s_iinc (q := 95) d_B_writeKnown_92 rfl rfl (by first | exact inc1 _ | rfl) (by decide) ?_
        refine s_iinc (q := 98) d_B_writeKnown_95 rfl rfl (by first | exact inc1 _ | rfl) (by decide) ?_
        refine s_goto (tgt := 27) d_B_writeKnown_98 (by decide) ?_
        exact s_lv (lv' := [(0, .ref o), (1, .ref s1), (2, .ref s2), (3, .ref s3), (4, .int (nI it0)), (5, .int (nI (min3 n1 n2 n3))), (6, .int (nI _)), (7, .int (nI (i + 1)))]) ⟨rfl, rfl, rfl, rfl, rfl, rfl, rfl, rfl, trivial⟩ ih
theorem t_B_write {X : RAM} {o n s1 s2 s3 n1 n2 n3 it0 : Nat} (hB : isB o) (hsz : X o 5 = nI n) (hn : n ≤ 12) (h1 : isS s1) (h2 : isS s2) (h3 : isS s3) (z1 : X s1 2 = nI n1) (z2 : X s2 2 = nI n2) (z3 : X s3 2 = nI n3) (m1 : n1 ≤ 40) (m2 : n2 ≤ 40) (m3 : n3 ≤ 40) (hit : it0 ≤ 40) (hlo : o + 5 < 114) (g1 : 114 ≤ s1 ∧ s1 % 2 = 0) (g2 : 114 ≤ s2 ∧ s2 % 2 = 0) (g3 : 114 ≤ s3 ∧ s3 % 2 = 0) : CG l D ac b y_B_writeKnown c_B_writeKnown 8 (some .int) 2 43 [.ref o, .ref s1, .ref s2, .ref s3, .int (nI it0)] X (some (.int (nI (wkS X o s1 s2 s3 (min3 n1 n2 n3) it0 n).2))) ((wkS X o s1 s2 s3 (min3 n1 n2 n3) it0 n).1) := by
  refine Ct_of false (by decide) (fun h => by cases h) (Nat.le_of_ble_eq_true rfl) ?_
  show V l D ac b "SpanStore$Block" c_B_writeKnown 8 (some .int) false 2 43 0 0 ((some (.int (nI (wkS X o s1 s2 s3 (min3 n1 n2 n3) it0 n).2))), 144, mk ((wkS X o s1 s2 s3 (min3 n1 n2 n3) it0 n).1)) 0 0 0 [(0, .ref o), (1, .ref s1), (2, .ref s2), (3, .ref s3), (4, .int (nI it0))] [] 144 (mk X)
  refine s_aload_n (q := 1) d_B_writeKnown_0 rfl rfl (Or.inr ⟨_, rfl⟩) ?_
  refine g_getv (v := nI n1) (q := 4) d_B_writeKnown_1 rfl fl_B_111 h1.1 rfl z1 ?_
  refine s_aload_n (q := 5) d_B_writeKnown_4 rfl rfl (Or.inr ⟨_, rfl⟩) ?_
  refine g_getv (v := nI n2) (q := 8) d_B_writeKnown_5 rfl fl_B_111 h2.1 rfl z2 ?_
  refine s_aload_n (q := 9) d_B_writeKnown_8 rfl rfl (Or.inr ⟨_, rfl⟩) ?_
  refine g_getv (v := nI n3) (q := 12) d_B_writeKnown_9 rfl fl_B_111 h3.1 rfl z3 ?_
  refine s_min (q := 15) d_B_writeKnown_12 rfl ml_B_59 (Nat.le_of_ble_eq_true rfl) (by decide) (by decide) ⟨Nat.le_refl _, Nat.le_refl _⟩ ?_
  rw [mn2 m2 m3]
  refine s_min (q := 18) d_B_writeKnown_15 rfl ml_B_59 (Nat.le_of_ble_eq_true rfl) (by decide) (by decide) ⟨Nat.le_refl _, Nat.le_refl _⟩ ?_
  rw [mn2 m1 (by omega)]
  refine s_istore (q := 20) d_B_writeKnown_18 rfl (by decide) ?_
  refine s_iload (q := 22) d_B_writeKnown_20 rfl rfl ?_
  refine s_istore (q := 24) d_B_writeKnown_22 rfl (by decide) ?_
  refine s_iconst (v := 0) (q := 25) d_B_writeKnown_24 rfl ki_0 ?_
  refine s_istore (q := 27) d_B_writeKnown_25 rfl (by decide) ?_
  exact s_lv (lv' := [(0, .ref o), (1, .ref s1), (2, .ref s2), (3, .ref s3), (4, .int (nI it0)), (5, .int (nI (min3 n1 n2 n3))), (6, .int (nI (wkS X o s1 s2 s3 (min3 n1 n2 n3) it0 0).2)), (7, .int (nI 0))]) ⟨rfl, rfl, rfl, rfl, rfl, rfl, rfl, rfl, trivial⟩ (lp_write hB hsz hn h1 h2 h3 z1 z2 z3 m1 m2 m3 hit hlo g1 g2 g3 0 (Nat.zero_le n))
end P09
end
section
section P10
variable {l : Launch} {D : va_G} {ac : Nat → ClassId} {b : Nat}
def szN (X : RAM) (o : Nat) : Nat := (X o 5).toNatClampNeg
def okZ (X : RAM) (o : Nat) : Prop := ∀ j, j < 8 → X (o + 3 + 6 * j) 5 = nI (szN X (o + 3 + 6 * j)) ∧ szN X (o + 3 + 6 * j) ≤ 12
def sumI (f : Nat → Int32) : Nat → Int32
  | 0 => 0
  | i + 1 => sumI f i + f i
def sumL (f : Nat → Int64) : Nat → Int64
  | 0 => 0
  | i + 1 => sumL f i + f i
theorem le8 : (8 : Int32) ≤ nI 8 := by decide
theorem nle8 {i : Nat} (h : i < 8) : ¬ (8 : Int32) ≤ nI i := nI_ge (a := i) (b := 8) h (by decide)
theorem lp_T_rows {X : RAM} {o : Nat} (hT : isT o) : ∀ i, i ≤ 8 → V l D ac b "SpanStore$Table" c_T_rows 3 (some .int) false 0 0 0 0 ((some (.int (sumI (fun j => X (o + 3 + 6 * j) 5) 8))), 144, mk X) 0 0 4 [(0, .ref o), (1, .int (sumI (fun j => X (o + 3 + 6 * j) 5) i)), (2, .int (nI i))] [] 144 (mk X) := by
  refine nat_down ?_ (fun i hi ih => ?_)
  · skip
    refine s_iload_n (q := 5) d_T_rows_4 rfl rfl ?_
    refine s_bipush (v := 8) (q := 7) d_T_rows_5 rfl kb_8 ?_
    refine s_icmp_ge (tgt := 28) (q := 10) d_T_rows_7 (by decide) rfl (fun _ => ?_) (fun z => absurd le8 z)
    refine s_iload_n (q := 29) d_T_rows_28 rfl rfl ?_
    exact g_iret d_T_rows_29 rfl rfl rfl rfl
  · skip
    refine s_iload_n (q := 5) d_T_rows_4 rfl rfl ?_
    refine s_bipush (v := 8) (q := 7) d_T_rows_5 rfl kb_8 ?_
    refine s_icmp_ge (tgt := 28) (q := 10) d_T_rows_7 (by decide) rfl (fun z => absurd z (nle8 hi)) (fun _ => ?_)
    refine s_iload_n (q := 11) d_T_rows_10 rfl rfl ?_
    refine s_aload_n (q := 12) d_T_rows_11 rfl rfl (Or.inr ⟨_, rfl⟩) ?_
    refine g_getr (q := 15) d_T_rows_12 rfl fl_T_11 hT.1 rfl ?_
    refine s_iload_n (q := 16) d_T_rows_15 rfl rfl ?_
    refine g_aald (q := 17) d_T_rows_16 rfl hT.2.1 (by decide) rfl (by decide) rfl hi rfl ?_
    refine g_geti (q := 20) d_T_rows_17 rfl fl_T_52 (hT.2.2.2.1 _ hi).1 rfl ?_
    refine s_iadd (q := 21) d_T_rows_20 rfl ?_
    refine s_istore_n (q := 22) d_T_rows_21 rfl (by decide) ?_
    refine s_iinc (q := 25) d_T_rows_22 rfl rfl (by first | exact inc1 _ | rfl) (by decide) ?_
    refine s_goto (tgt := 4) d_T_rows_25 (by decide) ?_
    exact s_lv (lv' := [(0, .ref o), (1, .int (sumI (fun j => X (o + 3 + 6 * j) 5) (i + 1))), (2, .int (nI (i + 1)))]) ⟨rfl, rfl, rfl, trivial⟩ ih
theorem t_T_rows {X : RAM} {o : Nat} (hT : isT o) : CG l D ac b y_T_rows c_T_rows 3 (some .int) 0 0 [.ref o] X (some (.int (sumI (fun j => X (o + 3 + 6 * j) 5) 8))) (X) := by
  refine Ct_of false (by decide) (fun h => by cases h) (Nat.le_of_ble_eq_true rfl) ?_
  show V l D ac b "SpanStore$Table" c_T_rows 3 (some .int) false 0 0 0 0 ((some (.int (sumI (fun j => X (o + 3 + 6 * j) 5) 8))), 144, mk (X)) 0 0 0 [(0, .ref o)] [] 144 (mk X)
  refine s_iconst (v := 0) (q := 1) d_T_rows_0 rfl ki_0 ?_
  refine s_istore_n (q := 2) d_T_rows_1 rfl (by decide) ?_
  refine s_iconst (v := 0) (q := 3) d_T_rows_2 rfl ki_0 ?_
  refine s_istore_n (q := 4) d_T_rows_3 rfl (by decide) ?_
  exact s_lv (lv' := [(0, .ref o), (1, .int (sumI (fun j => X (o + 3 + 6 * j) 5) 0)), (2, .int (nI 0))]) ⟨rfl, rfl, rfl, trivial⟩ (lp_T_rows hT 0 (Nat.zero_le 8))
theorem lp_T_knownRows {X : RAM} {o : Nat} (hT : isT o) : ∀ i, i ≤ 8 → V l D ac b "SpanStore$Table" c_T_knownRows 3 (some .int) false 0 0 0 0 ((some (.int (sumI (fun j => X (o + 3 + 6 * j) 6) 8))), 144, mk X) 0 0 4 [(0, .ref o), (1, .int (sumI (fun j => X (o + 3 + 6 * j) 6) i)), (2, .int (nI i))] [] 144 (mk X) := by
  refine nat_down ?_ (fun i hi ih => ?_)
  · skip
    refine s_iload_n (q := 5) d_T_knownRows_4 rfl rfl ?_
    refine s_bipush (v := 8) (q := 7) d_T_knownRows_5 rfl kb_8 ?_
    refine s_icmp_ge (tgt := 28) (q := 10) d_T_knownRows_7 (by decide) rfl (fun _ => ?_) (fun z => absurd le8 z)
    refine s_iload_n (q := 29) d_T_knownRows_28 rfl rfl ?_
    exact g_iret d_T_knownRows_29 rfl rfl rfl rfl
  · skip
    refine s_iload_n (q := 5) d_T_knownRows_4 rfl rfl ?_
    refine s_bipush (v := 8) (q := 7) d_T_knownRows_5 rfl kb_8 ?_
    refine s_icmp_ge (tgt := 28) (q := 10) d_T_knownRows_7 (by decide) rfl (fun z => absurd z (nle8 hi)) (fun _ => ?_)
    refine s_iload_n (q := 11) d_T_knownRows_10 rfl rfl ?_
    refine s_aload_n (q := 12) d_T_knownRows_11 rfl rfl (Or.inr ⟨_, rfl⟩) ?_
    refine g_getr (q := 15) d_T_knownRows_12 rfl fl_T_11 hT.1 rfl ?_
    refine s_iload_n (q := 16) d_T_knownRows_15 rfl rfl ?_
    refine g_aald (q := 17) d_T_knownRows_16 rfl hT.2.1 (by decide) rfl (by decide) rfl hi rfl ?_
    refine g_geti (q := 20) d_T_knownRows_17 rfl fl_T_55 (hT.2.2.2.1 _ hi).1 rfl ?_
    refine s_iadd (q := 21) d_T_knownRows_20 rfl ?_
    refine s_istore_n (q := 22) d_T_knownRows_21 rfl (by decide) ?_
    refine s_iinc (q := 25) d_T_knownRows_22 rfl rfl (by first | exact inc1 _ | rfl) (by decide) ?_
    refine s_goto (tgt := 4) d_T_knownRows_25 (by decide) ?_
    exact s_lv (lv' := [(0, .ref o), (1, .int (sumI (fun j => X (o + 3 + 6 * j) 6) (i + 1))), (2, .int (nI (i + 1)))]) ⟨rfl, rfl, rfl, trivial⟩ ih
theorem t_T_knownRows {X : RAM} {o : Nat} (hT : isT o) : CG l D ac b y_T_knownRows c_T_knownRows 3 (some .int) 0 0 [.ref o] X (some (.int (sumI (fun j => X (o + 3 + 6 * j) 6) 8))) (X) := by
  refine Ct_of false (by decide) (fun h => by cases h) (Nat.le_of_ble_eq_true rfl) ?_
  show V l D ac b "SpanStore$Table" c_T_knownRows 3 (some .int) false 0 0 0 0 ((some (.int (sumI (fun j => X (o + 3 + 6 * j) 6) 8))), 144, mk (X)) 0 0 0 [(0, .ref o)] [] 144 (mk X)
  refine s_iconst (v := 0) (q := 1) d_T_knownRows_0 rfl ki_0 ?_
  refine s_istore_n (q := 2) d_T_knownRows_1 rfl (by decide) ?_
  refine s_iconst (v := 0) (q := 3) d_T_knownRows_2 rfl ki_0 ?_
  refine s_istore_n (q := 4) d_T_knownRows_3 rfl (by decide) ?_
  exact s_lv (lv' := [(0, .ref o), (1, .int (sumI (fun j => X (o + 3 + 6 * j) 6) 0)), (2, .int (nI 0))]) ⟨rfl, rfl, rfl, trivial⟩ (lp_T_knownRows hT 0 (Nat.zero_le 8))
def sumT (X : RAM) (o : Nat) (g e : Int32) : Int64 := sumL (fun j => sumV X (o + 3 + 6 * j) (szN X (o + 3 + 6 * j)) g e) 8
theorem lp_T_sumEnd {X : RAM} {o : Nat} {g e : Int32} (hT : isT o) (hZ : okZ X o) : ∀ i, i ≤ 8 → V l D ac b "SpanStore$Table" c_T_sumEnd 6 (some .long) false 4 88 0 0 ((some (.long (sumT X o g e))), 144, mk X) 0 0 5 [(0, .ref o), (1, .int g), (2, .int e), (3, .long (sumL (fun j => sumV X (o + 3 + 6 * j) (szN X (o + 3 + 6 * j)) g e) i)), (5, .int (nI i))] [] 144 (mk X) := by
  refine nat_down ?_ (fun i hi ih => ?_)
  · skip
    refine s_iload (q := 7) d_T_sumEnd_5 rfl rfl ?_
    refine s_bipush (v := 8) (q := 9) d_T_sumEnd_7 rfl kb_8 ?_
    refine s_icmp_ge (tgt := 33) (q := 12) d_T_sumEnd_9 (by decide) rfl (fun _ => ?_) (fun z => absurd le8 z)
    refine s_lload_n (q := 34) d_T_sumEnd_33 rfl rfl ?_
    exact g_lret d_T_sumEnd_34 rfl rfl rfl
  · skip
    refine s_iload (q := 7) d_T_sumEnd_5 rfl rfl ?_
    refine s_bipush (v := 8) (q := 9) d_T_sumEnd_7 rfl kb_8 ?_
    refine s_icmp_ge (tgt := 33) (q := 12) d_T_sumEnd_9 (by decide) rfl (fun z => absurd z (nle8 hi)) (fun _ => ?_)
    refine s_lload_n (q := 13) d_T_sumEnd_12 rfl rfl ?_
    refine s_aload_n (q := 14) d_T_sumEnd_13 rfl rfl (Or.inr ⟨_, rfl⟩) ?_
    refine g_getr (q := 17) d_T_sumEnd_14 rfl fl_T_11 hT.1 rfl ?_
    refine s_iload (q := 19) d_T_sumEnd_17 rfl rfl ?_
    refine g_aald (q := 20) d_T_sumEnd_19 rfl hT.2.1 (by decide) rfl (by decide) rfl hi rfl ?_
    refine s_iload_n (q := 21) d_T_sumEnd_20 rfl rfl ?_
    refine s_iload_n (q := 22) d_T_sumEnd_21 rfl rfl ?_
    refine g_callV (q := 25) d_T_sumEnd_22 rfl ml_T_67 mx_B_sumEnd mv_B_sumEnd (t_B_sumEnd (hT.2.2.2.1 _ hi) (hZ i hi).1 (hZ i hi).2) (hT.2.2.2.1 _ hi).1 rfl rfl (Nat.le_of_ble_eq_true rfl) (by decide) ?_
    refine s_ladd (q := 26) d_T_sumEnd_25 rfl ?_
    refine s_lstore_n (q := 27) d_T_sumEnd_26 rfl (by decide) ?_
    refine s_iinc (q := 30) d_T_sumEnd_27 rfl rfl (by first | exact inc1 _ | rfl) (by decide) ?_
    refine s_goto (tgt := 5) d_T_sumEnd_30 (by decide) ?_
    exact s_lv (lv' := [(0, .ref o), (1, .int g), (2, .int e), (3, .long (sumL (fun j => sumV X (o + 3 + 6 * j) (szN X (o + 3 + 6 * j)) g e) (i + 1))), (5, .int (nI (i + 1)))]) ⟨rfl, rfl, rfl, rfl, rfl, trivial⟩ ih
theorem t_T_sumEnd {X : RAM} {o : Nat} {g e : Int32} (hT : isT o) (hZ : okZ X o) : CG l D ac b y_T_sumEnd c_T_sumEnd 6 (some .long) 4 88 [.ref o, .int g, .int e] X (some (.long (sumT X o g e))) (X) := by
  refine Ct_of false (by decide) (fun h => by cases h) (Nat.le_of_ble_eq_true rfl) ?_
  show V l D ac b "SpanStore$Table" c_T_sumEnd 6 (some .long) false 4 88 0 0 ((some (.long (sumT X o g e))), 144, mk (X)) 0 0 0 [(0, .ref o), (1, .int g), (2, .int e)] [] 144 (mk X)
  refine s_lconst (v := 0) (q := 1) d_T_sumEnd_0 rfl kl_0 ?_
  refine s_lstore_n (q := 2) d_T_sumEnd_1 rfl (by decide) ?_
  refine s_iconst (v := 0) (q := 3) d_T_sumEnd_2 rfl ki_0 ?_
  refine s_istore (q := 5) d_T_sumEnd_3 rfl (by decide) ?_
  exact s_lv (lv' := [(0, .ref o), (1, .int g), (2, .int e), (3, .long (sumL (fun j => sumV X (o + 3 + 6 * j) (szN X (o + 3 + 6 * j)) g e) 0)), (5, .int (nI 0))]) ⟨rfl, rfl, rfl, rfl, rfl, trivial⟩ (lp_T_sumEnd hT hZ 0 (Nat.zero_le 8))
theorem t_T_apart {X : RAM} {o : Nat} {g : Int32} (hT : isT o) (hZ : okZ X o) : CG l D ac b y_T_apart c_T_apart 2 (some .long) 5 113 [.ref o, .int g] X (some (.long (sumT X o g 1 - sumT X o g 0))) (X) := by
  refine Ct_of false (by decide) (fun h => by cases h) (Nat.le_of_ble_eq_true rfl) ?_
  show V l D ac b "SpanStore$Table" c_T_apart 2 (some .long) false 5 113 0 0 ((some (.long (sumT X o g 1 - sumT X o g 0))), 144, mk (X)) 0 0 0 [(0, .ref o), (1, .int g)] [] 144 (mk X)
  refine s_aload_n (q := 1) d_T_apart_0 rfl rfl (Or.inr ⟨_, rfl⟩) ?_
  refine s_iload_n (q := 2) d_T_apart_1 rfl rfl ?_
  refine s_iconst (v := 1) (q := 3) d_T_apart_2 rfl ki_1 ?_
  refine g_callV (q := 6) d_T_apart_3 rfl ml_T_71 mx_T_sumEnd mv_T_sumEnd (t_T_sumEnd hT hZ) hT.1 rfl rfl (Nat.le_of_ble_eq_true rfl) (by decide) ?_
  refine s_aload_n (q := 7) d_T_apart_6 rfl rfl (Or.inr ⟨_, rfl⟩) ?_
  refine s_iload_n (q := 8) d_T_apart_7 rfl rfl ?_
  refine s_iconst (v := 0) (q := 9) d_T_apart_8 rfl ki_0 ?_
  refine g_callV (q := 12) d_T_apart_9 rfl ml_T_71 mx_T_sumEnd mv_T_sumEnd (t_T_sumEnd hT hZ) hT.1 rfl rfl (Nat.le_of_ble_eq_true rfl) (by decide) ?_
  refine s_lsub (q := 13) d_T_apart_12 rfl ?_
  exact g_lret d_T_apart_13 rfl rfl rfl
theorem lp_T_countEnd {X : RAM} {o : Nat} {x e : Int32} (hT : isT o) (hZ : okZ X o) : ∀ i, i ≤ 8 → V l D ac b "SpanStore$Table" c_T_countEnd 5 (some .int) false 4 87 0 0 ((some (.int (sumI (fun j => cntV X (o + 3 + 6 * j) (szN X (o + 3 + 6 * j)) x e) 8))), 144, mk X) 0 0 5 [(0, .ref o), (1, .int x), (2, .int e), (3, .int (sumI (fun j => cntV X (o + 3 + 6 * j) (szN X (o + 3 + 6 * j)) x e) i)), (4, .int (nI i))] [] 144 (mk X) := by
  refine nat_down ?_ (fun i hi ih => ?_)
  · skip
    refine s_iload (q := 7) d_T_countEnd_5 rfl rfl ?_
    refine s_bipush (v := 8) (q := 9) d_T_countEnd_7 rfl kb_8 ?_
    refine s_icmp_ge (tgt := 33) (q := 12) d_T_countEnd_9 (by decide) rfl (fun _ => ?_) (fun z => absurd le8 z)
    refine s_iload_n (q := 34) d_T_countEnd_33 rfl rfl ?_
    exact g_iret d_T_countEnd_34 rfl rfl rfl rfl
  · skip
    refine s_iload (q := 7) d_T_countEnd_5 rfl rfl ?_
    refine s_bipush (v := 8) (q := 9) d_T_countEnd_7 rfl kb_8 ?_
    refine s_icmp_ge (tgt := 33) (q := 12) d_T_countEnd_9 (by decide) rfl (fun z => absurd z (nle8 hi)) (fun _ => ?_)
    refine s_iload_n (q := 13) d_T_countEnd_12 rfl rfl ?_
    refine s_aload_n (q := 14) d_T_countEnd_13 rfl rfl (Or.inr ⟨_, rfl⟩) ?_
    refine g_getr (q := 17) d_T_countEnd_14 rfl fl_T_11 hT.1 rfl ?_
    refine s_iload (q := 19) d_T_countEnd_17 rfl rfl ?_
    refine g_aald (q := 20) d_T_countEnd_19 rfl hT.2.1 (by decide) rfl (by decide) rfl hi rfl ?_
    refine s_iload_n (q := 21) d_T_countEnd_20 rfl rfl ?_
    refine s_iload_n (q := 22) d_T_countEnd_21 rfl rfl ?_
    refine g_callV (q := 25) d_T_countEnd_22 rfl ml_T_72 mx_B_countEnd mv_B_countEnd (t_B_countEnd (hT.2.2.2.1 _ hi) (hZ i hi).1 (hZ i hi).2) (hT.2.2.2.1 _ hi).1 rfl rfl (Nat.le_of_ble_eq_true rfl) (by decide) ?_
    refine s_iadd (q := 26) d_T_countEnd_25 rfl ?_
    refine s_istore_n (q := 27) d_T_countEnd_26 rfl (by decide) ?_
    refine s_iinc (q := 30) d_T_countEnd_27 rfl rfl (by first | exact inc1 _ | rfl) (by decide) ?_
    refine s_goto (tgt := 5) d_T_countEnd_30 (by decide) ?_
    exact s_lv (lv' := [(0, .ref o), (1, .int x), (2, .int e), (3, .int (sumI (fun j => cntV X (o + 3 + 6 * j) (szN X (o + 3 + 6 * j)) x e) (i + 1))), (4, .int (nI (i + 1)))]) ⟨rfl, rfl, rfl, rfl, rfl, trivial⟩ ih
theorem t_T_countEnd {X : RAM} {o : Nat} {x e : Int32} (hT : isT o) (hZ : okZ X o) : CG l D ac b y_T_countEnd c_T_countEnd 5 (some .int) 4 87 [.ref o, .int x, .int e] X (some (.int (sumI (fun j => cntV X (o + 3 + 6 * j) (szN X (o + 3 + 6 * j)) x e) 8))) (X) := by
  refine Ct_of false (by decide) (fun h => by cases h) (Nat.le_of_ble_eq_true rfl) ?_
  show V l D ac b "SpanStore$Table" c_T_countEnd 5 (some .int) false 4 87 0 0 ((some (.int (sumI (fun j => cntV X (o + 3 + 6 * j) (szN X (o + 3 + 6 * j)) x e) 8))), 144, mk (X)) 0 0 0 [(0, .ref o), (1, .int x), (2, .int e)] [] 144 (mk X)
  refine s_iconst (v := 0) (q := 1) d_T_countEnd_0 rfl ki_0 ?_
  refine s_istore_n (q := 2) d_T_countEnd_1 rfl (by decide) ?_
  refine s_iconst (v := 0) (q := 3) d_T_countEnd_2 rfl ki_0 ?_
  refine s_istore (q := 5) d_T_countEnd_3 rfl (by decide) ?_
  exact s_lv (lv' := [(0, .ref o), (1, .int x), (2, .int e), (3, .int (sumI (fun j => cntV X (o + 3 + 6 * j) (szN X (o + 3 + 6 * j)) x e) 0)), (4, .int (nI 0))]) ⟨rfl, rfl, rfl, rfl, rfl, trivial⟩ (lp_T_countEnd hT hZ 0 (Nat.zero_le 8))
def apV (X : RAM) (o : Nat) (g : Int32) : Int64 := sumV X o (szN X o) g 1 - sumV X o (szN X o) g 0
def wdS (a : Nat → Int64) : Nat → Int32 × Int64
  | 0 => (-1, 0)
  | j + 1 => if (wdS a j).2 < a j then (nI j, a j) else wdS a j
def wdT (X : RAM) (o : Nat) (g : Int32) : Int32 := (wdS (fun j => apV X (o + 3 + 6 * j) g) 8).1
theorem lg_le {x y : Int64} : lg_cmp x y ≤ 0 ↔ ¬ y < x := by
  unfold lg_cmp
  by_cases h : y < x
  · rw [if_pos h]
    exact ⟨fun z => absurd z (by decide), fun z => absurd h z⟩
  · rw [if_neg h]
    refine ⟨fun _ => h, fun _ => ?_⟩
    split <;> decide
theorem lp_T_widest {X : RAM} {o : Nat} {g : Int32} (hT : isT o) (hZ : okZ X o) : ∀ i, i ≤ 8 → V l D ac b "SpanStore$Table" c_T_widestBlock 8 (some .int) false 5 109 0 0 ((some (.int (wdT X o g))), 144, mk X) 0 0 7 [(0, .ref o), (1, .int g), (2, .int (wdS (fun j => apV X (o + 3 + 6 * j) g) i).1), (3, .long (wdS (fun j => apV X (o + 3 + 6 * j) g) i).2), (5, .int (nI i))] [] 144 (mk X) := by
  refine nat_down ?_ (fun i hi ih => ?_)
  · skip
    refine s_iload (q := 9) d_T_widestBlock_7 rfl rfl ?_
    refine s_bipush (v := 8) (q := 11) d_T_widestBlock_9 rfl kb_8 ?_
    refine s_icmp_ge (tgt := 46) (q := 14) d_T_widestBlock_11 (by decide) rfl (fun _ => ?_) (fun z => absurd le8 z)
    refine s_iload_n (q := 47) d_T_widestBlock_46 rfl rfl ?_
    exact g_iret d_T_widestBlock_47 rfl rfl rfl rfl
  · skip
    refine s_iload (q := 9) d_T_widestBlock_7 rfl rfl ?_
    refine s_bipush (v := 8) (q := 11) d_T_widestBlock_9 rfl kb_8 ?_
    refine s_icmp_ge (tgt := 46) (q := 14) d_T_widestBlock_11 (by decide) rfl (fun z => absurd z (nle8 hi)) (fun _ => ?_)
    refine s_aload_n (q := 15) d_T_widestBlock_14 rfl rfl (Or.inr ⟨_, rfl⟩) ?_
    refine g_getr (q := 18) d_T_widestBlock_15 rfl fl_T_11 hT.1 rfl ?_
    refine s_iload (q := 20) d_T_widestBlock_18 rfl rfl ?_
    refine g_aald (q := 21) d_T_widestBlock_20 rfl hT.2.1 (by decide) rfl (by decide) rfl hi rfl ?_
    refine s_iload_n (q := 22) d_T_widestBlock_21 rfl rfl ?_
    refine g_callV (q := 25) d_T_widestBlock_22 rfl ml_T_76 mx_B_apart mv_B_apart (t_B_apart (hT.2.2.2.1 _ hi) (hZ i hi).1 (hZ i hi).2) (hT.2.2.2.1 _ hi).1 rfl rfl (Nat.le_of_ble_eq_true rfl) (by decide) ?_
    refine s_lstore (q := 27) d_T_widestBlock_25 rfl (by decide) ?_
    refine s_lload (q := 29) d_T_widestBlock_27 rfl rfl ?_
    refine s_lload_n (q := 30) d_T_widestBlock_29 rfl rfl ?_
    refine s_lcmp (q := 31) d_T_widestBlock_30 rfl ?_
    refine s_if_le (tgt := 40) (q := 34) d_T_widestBlock_31 (by decide) rfl (fun h_31 => ?_) (fun h_31 => ?_)
    · -- T 31
      rw [lg_le] at h_31
      rw [show wdS (fun j => apV X (o + 3 + 6 * j) g) (i + 1) = (wdS (fun j => apV X (o + 3 + 6 * j) g) i) from by rw [wdS]; exact if_neg h_31] at ih
      refine s_iinc (q := 43) d_T_widestBlock_40 rfl rfl (by first | exact inc1 _ | rfl) (by decide) ?_
      refine s_goto (tgt := 7) d_T_widestBlock_43 (by decide) ?_
      exact s_lv (lv' := [(0, .ref o), (1, .int g), (2, .int _), (3, .long _), (5, .int (nI (i + 1)))]) ⟨rfl, rfl, rfl, rfl, rfl, trivial⟩ ih
    · -- F 31
      rw [lg_le, Classical.not_not] at h_31
      rw [show wdS (fun j => apV X (o + 3 + 6 * j) g) (i + 1) = (nI i, apV X (o + 3 + 6 * i) g) from by rw [wdS]; exact if_pos h_31] at ih
      refine s_lload (q := 36) d_T_widestBlock_34 rfl rfl ?_
      refine s_lstore_n (q := 37) d_T_widestBlock_36 rfl (by decide) ?_
      refine s_iload (q := 39) d_T_widestBlock_37 rfl rfl ?_
      refine s_istore_n (q := 40) d_T_widestBlock_39 rfl (by decide) ?_
      refine s_iinc (q := 43) d_T_widestBlock_40 rfl rfl (by first | exact inc1 _ | rfl) (by decide) ?_
      refine s_goto (tgt := 7) d_T_widestBlock_43 (by decide) ?_
      exact s_lv (lv' := [(0, .ref o), (1, .int g), (2, .int _), (3, .long _), (5, .int (nI (i + 1)))]) ⟨rfl, rfl, rfl, rfl, rfl, trivial⟩ ih
theorem t_T_widest {X : RAM} {o : Nat} {g : Int32} (hT : isT o) (hZ : okZ X o) : CG l D ac b y_T_widestBlock c_T_widestBlock 8 (some .int) 5 109 [.ref o, .int g] X (some (.int (wdT X o g))) (X) := by
  refine Ct_of false (by decide) (fun h => by cases h) (Nat.le_of_ble_eq_true rfl) ?_
  show V l D ac b "SpanStore$Table" c_T_widestBlock 8 (some .int) false 5 109 0 0 ((some (.int (wdT X o g))), 144, mk (X)) 0 0 0 [(0, .ref o), (1, .int g)] [] 144 (mk X)
  refine s_iconst (v := (-1)) (q := 1) d_T_widestBlock_0 rfl ki_m1 ?_
  refine s_istore_n (q := 2) d_T_widestBlock_1 rfl (by decide) ?_
  refine s_lconst (v := 0) (q := 3) d_T_widestBlock_2 rfl kl_0 ?_
  refine s_lstore_n (q := 4) d_T_widestBlock_3 rfl (by decide) ?_
  refine s_iconst (v := 0) (q := 5) d_T_widestBlock_4 rfl ki_0 ?_
  refine s_istore (q := 7) d_T_widestBlock_5 rfl (by decide) ?_
  exact s_lv (lv' := [(0, .ref o), (1, .int g), (2, .int (wdS (fun j => apV X (o + 3 + 6 * j) g) 0).1), (3, .long (wdS (fun j => apV X (o + 3 + 6 * j) g) 0).2), (5, .int (nI 0))]) ⟨rfl, rfl, rfl, rfl, rfl, trivial⟩ (lp_T_widest hT hZ 0 (Nat.zero_le 8))
def mbS (X : RAM) (o : Nat) (h : Int64) : Nat → Int64
  | 0 => h
  | j + 1 => mxV X (o + 3 + 6 * j) (szN X (o + 3 + 6 * j)) (mbS X o h j)
def mtV (X : RAM) (o : Nat) (h : Int64) : Int64 := 31 * (31 * mbS X o h 8 + sumT X o (-1) 0) + sumT X o (-1) 1
theorem lp_T_mix {X : RAM} {o : Nat} {h : Int64} (hT : isT o) (hZ : okZ X o) : ∀ i, i ≤ 8 → V l D ac b "SpanStore$Table" c_T_mixedInto 6 (some .long) false 5 113 0 0 ((some (.long (mtV X o h))), 144, mk X) 0 0 5 [(0, .ref o), (1, .long h), (3, .long (mbS X o h i)), (5, .int (nI i))] [] 144 (mk X) := by
  refine nat_down ?_ (fun i hi ih => ?_)
  · skip
    refine s_iload (q := 7) d_T_mixedInto_5 rfl rfl ?_
    refine s_bipush (v := 8) (q := 9) d_T_mixedInto_7 rfl kb_8 ?_
    refine s_icmp_ge (tgt := 30) (q := 12) d_T_mixedInto_9 (by decide) rfl (fun _ => ?_) (fun z => absurd le8 z)
    refine s_lload_n (q := 31) d_T_mixedInto_30 rfl rfl ?_
    refine s_aload_n (q := 32) d_T_mixedInto_31 rfl rfl (Or.inr ⟨_, rfl⟩) ?_
    refine s_iconst (v := (-1)) (q := 33) d_T_mixedInto_32 rfl ki_m1 ?_
    refine s_iconst (v := 0) (q := 34) d_T_mixedInto_33 rfl ki_0 ?_
    refine g_callV (q := 37) d_T_mixedInto_34 rfl ml_T_71 mx_T_sumEnd mv_T_sumEnd (t_T_sumEnd hT hZ) hT.1 rfl rfl (Nat.le_of_ble_eq_true rfl) (by decide) ?_
    refine g_callN (q := 40) d_T_mixedInto_37 rfl (by decide) mx_C_mixed ms_C_mixed t_C_mixed rfl rfl (Nat.le_of_ble_eq_true rfl) (by decide) ?_
    refine s_lstore_n (q := 41) d_T_mixedInto_40 rfl (by decide) ?_
    refine s_lload_n (q := 42) d_T_mixedInto_41 rfl rfl ?_
    refine s_aload_n (q := 43) d_T_mixedInto_42 rfl rfl (Or.inr ⟨_, rfl⟩) ?_
    refine s_iconst (v := (-1)) (q := 44) d_T_mixedInto_43 rfl ki_m1 ?_
    refine s_iconst (v := 1) (q := 45) d_T_mixedInto_44 rfl ki_1 ?_
    refine g_callV (q := 48) d_T_mixedInto_45 rfl ml_T_71 mx_T_sumEnd mv_T_sumEnd (t_T_sumEnd hT hZ) hT.1 rfl rfl (Nat.le_of_ble_eq_true rfl) (by decide) ?_
    refine g_callN (q := 51) d_T_mixedInto_48 rfl (by decide) mx_C_mixed ms_C_mixed t_C_mixed rfl rfl (Nat.le_of_ble_eq_true rfl) (by decide) ?_
    exact g_lret d_T_mixedInto_51 rfl rfl rfl
  · skip
    refine s_iload (q := 7) d_T_mixedInto_5 rfl rfl ?_
    refine s_bipush (v := 8) (q := 9) d_T_mixedInto_7 rfl kb_8 ?_
    refine s_icmp_ge (tgt := 30) (q := 12) d_T_mixedInto_9 (by decide) rfl (fun z => absurd z (nle8 hi)) (fun _ => ?_)
    refine s_aload_n (q := 13) d_T_mixedInto_12 rfl rfl (Or.inr ⟨_, rfl⟩) ?_
    refine g_getr (q := 16) d_T_mixedInto_13 rfl fl_T_11 hT.1 rfl ?_
    refine s_iload (q := 18) d_T_mixedInto_16 rfl rfl ?_
    refine g_aald (q := 19) d_T_mixedInto_18 rfl hT.2.1 (by decide) rfl (by decide) rfl hi rfl ?_
    refine s_lload_n (q := 20) d_T_mixedInto_19 rfl rfl ?_
    refine g_callV (q := 23) d_T_mixedInto_20 rfl ml_T_80 mx_B_mixedInto mv_B_mixedInto (t_B_mixedInto (hT.2.2.2.1 _ hi) (hZ i hi).1 (hZ i hi).2) (hT.2.2.2.1 _ hi).1 rfl rfl (Nat.le_of_ble_eq_true rfl) (by decide) ?_
    refine s_lstore_n (q := 24) d_T_mixedInto_23 rfl (by decide) ?_
    refine s_iinc (q := 27) d_T_mixedInto_24 rfl rfl (by first | exact inc1 _ | rfl) (by decide) ?_
    refine s_goto (tgt := 5) d_T_mixedInto_27 (by decide) ?_
    exact s_lv (lv' := [(0, .ref o), (1, .long h), (3, .long (mbS X o h (i + 1))), (5, .int (nI (i + 1)))]) ⟨rfl, rfl, rfl, rfl, trivial⟩ ih
theorem t_T_mix {X : RAM} {o : Nat} {h : Int64} (hT : isT o) (hZ : okZ X o) : CG l D ac b y_T_mixedInto c_T_mixedInto 6 (some .long) 5 113 [.ref o, .long h] X (some (.long (mtV X o h))) (X) := by
  refine Ct_of false (by decide) (fun h => by cases h) (Nat.le_of_ble_eq_true rfl) ?_
  show V l D ac b "SpanStore$Table" c_T_mixedInto 6 (some .long) false 5 113 0 0 ((some (.long (mtV X o h))), 144, mk (X)) 0 0 0 [(0, .ref o), (1, .long h)] [] 144 (mk X)
  refine s_lload_n (q := 1) d_T_mixedInto_0 rfl rfl ?_
  refine s_lstore_n (q := 2) d_T_mixedInto_1 rfl (by decide) ?_
  refine s_iconst (v := 0) (q := 3) d_T_mixedInto_2 rfl ki_0 ?_
  refine s_istore (q := 5) d_T_mixedInto_3 rfl (by decide) ?_
  exact s_lv (lv' := [(0, .ref o), (1, .long h), (3, .long (mbS X o h 0)), (5, .int (nI 0))]) ⟨rfl, rfl, rfl, rfl, trivial⟩ (lp_T_mix hT hZ 0 (Nat.zero_le 8))
def hkP (X : RAM) (o : Nat) (a b : Int32) (k : Nat) : Bool := decide (X (o + 51 + k) 0 = 2 ∧ X (o + 51 + k) 1 = a ∧ X (o + 51 + k) 2 = b)
theorem lp_T_hasKeyed {X : RAM} {o c : Nat} {a m : Int32} (hT : isT o) (hc : X o 2 = nI c) (hc4 : c ≤ 4) : ∀ i, i ≤ c → (∀ j, j < i → hkP X o a m j = false) → V l D ac b "SpanStore$Table" c_T_hasKeyed 5 (some .boolean) false 0 0 0 0 ((some (.int (bI (anyB (hkP X o a m) c)))), 144, mk X) 0 0 2 [(0, .ref o), (1, .int a), (2, .int m), (3, .int (nI i))] [] 144 (mk X) := by
  refine nat_down ?_ (fun i hi ih => ?_)
  · skip
    intro hp
    refine s_iload_n (q := 3) d_T_hasKeyed_2 rfl rfl ?_
    refine s_aload_n (q := 4) d_T_hasKeyed_3 rfl rfl (Or.inr ⟨_, rfl⟩) ?_
    refine g_getv (v := nI c) (q := 7) d_T_hasKeyed_4 rfl fl_T_25 hT.1 rfl hc ?_
    refine s_icmp_ge (tgt := 53) (q := 10) d_T_hasKeyed_7 (by decide) rfl (fun _ => ?_) (fun z => absurd (nI_le (Nat.le_refl c) (by omega)) z)
    refine s_iconst (v := 0) (q := 54) d_T_hasKeyed_53 rfl ki_0 ?_
    exact g_iret d_T_hasKeyed_54 rfl rfl (bI_f (anyB_f hp)).symm rfl
  · skip
    intro hp
    refine s_iload_n (q := 3) d_T_hasKeyed_2 rfl rfl ?_
    refine s_aload_n (q := 4) d_T_hasKeyed_3 rfl rfl (Or.inr ⟨_, rfl⟩) ?_
    refine g_getv (v := nI c) (q := 7) d_T_hasKeyed_4 rfl fl_T_25 hT.1 rfl hc ?_
    refine s_icmp_ge (tgt := 53) (q := 10) d_T_hasKeyed_7 (by decide) rfl (fun z => absurd z (nI_ge hi (by omega))) (fun _ => ?_)
    refine s_aload_n (q := 11) d_T_hasKeyed_10 rfl rfl (Or.inr ⟨_, rfl⟩) ?_
    refine g_getr (q := 14) d_T_hasKeyed_11 rfl fl_T_19 hT.1 rfl ?_
    refine s_iload_n (q := 15) d_T_hasKeyed_14 rfl rfl ?_
    refine g_aald (q := 16) d_T_hasKeyed_15 rfl hT.2.2.1 (by decide) rfl (by decide) rfl (by omega) rfl ?_
    refine s_astore (q := 18) d_T_hasKeyed_16 rfl (by decide) (Or.inr ⟨_, rfl⟩) ?_
    refine s_aload (q := 20) d_T_hasKeyed_18 rfl rfl (Or.inr ⟨_, rfl⟩) ?_
    refine g_geti (q := 23) d_T_hasKeyed_20 rfl fl_T_58 (hT.2.2.2.2 _ (by omega)) rfl ?_
    refine s_iconst (v := 2) (q := 24) d_T_hasKeyed_23 rfl ki_2 ?_
    refine s_icmp_ne (tgt := 47) (q := 27) d_T_hasKeyed_24 (by decide) rfl (fun h_24 => ?_) (fun h_24 => ?_)
    · -- T 24
      refine s_iinc (q := 50) d_T_hasKeyed_47 rfl rfl (by first | exact inc1 _ | rfl) (by decide) ?_
      refine s_goto (tgt := 2) d_T_hasKeyed_50 (by decide) ?_
      refine s_lv (lv' := [(0, .ref o), (1, .int a), (2, .int m), (3, .int (nI (i + 1)))]) ⟨rfl, rfl, rfl, rfl, trivial⟩ (ih (fun j hj => ?_))
      by_cases hji : j = i
      · subst hji; simp [hkP, *]
      · exact hp j (by omega)
    · -- F 24
      refine s_aload (q := 29) d_T_hasKeyed_27 rfl rfl (Or.inr ⟨_, rfl⟩) ?_
      refine g_geti (q := 32) d_T_hasKeyed_29 rfl fl_T_61 (hT.2.2.2.2 _ (by omega)) rfl ?_
      refine s_iload_n (q := 33) d_T_hasKeyed_32 rfl rfl ?_
      refine s_icmp_ne (tgt := 47) (q := 36) d_T_hasKeyed_33 (by decide) rfl (fun h_33 => ?_) (fun h_33 => ?_)
      · -- T 33
        refine s_iinc (q := 50) d_T_hasKeyed_47 rfl rfl (by first | exact inc1 _ | rfl) (by decide) ?_
        refine s_goto (tgt := 2) d_T_hasKeyed_50 (by decide) ?_
        refine s_lv (lv' := [(0, .ref o), (1, .int a), (2, .int m), (3, .int (nI (i + 1)))]) ⟨rfl, rfl, rfl, rfl, trivial⟩ (ih (fun j hj => ?_))
        by_cases hji : j = i
        · subst hji; simp [hkP, *]
        · exact hp j (by omega)
      · -- F 33
        refine s_aload (q := 38) d_T_hasKeyed_36 rfl rfl (Or.inr ⟨_, rfl⟩) ?_
        refine g_geti (q := 41) d_T_hasKeyed_38 rfl fl_T_64 (hT.2.2.2.2 _ (by omega)) rfl ?_
        refine s_iload_n (q := 42) d_T_hasKeyed_41 rfl rfl ?_
        refine s_icmp_ne (tgt := 47) (q := 45) d_T_hasKeyed_42 (by decide) rfl (fun h_42 => ?_) (fun h_42 => ?_)
        · -- T 42
          refine s_iinc (q := 50) d_T_hasKeyed_47 rfl rfl (by first | exact inc1 _ | rfl) (by decide) ?_
          refine s_goto (tgt := 2) d_T_hasKeyed_50 (by decide) ?_
          refine s_lv (lv' := [(0, .ref o), (1, .int a), (2, .int m), (3, .int (nI (i + 1)))]) ⟨rfl, rfl, rfl, rfl, trivial⟩ (ih (fun j hj => ?_))
          by_cases hji : j = i
          · subst hji; simp [hkP, *]
          · exact hp j (by omega)
        · -- F 42
          refine s_iconst (v := 1) (q := 46) d_T_hasKeyed_45 rfl ki_1 ?_
          exact g_iret d_T_hasKeyed_46 rfl rfl (bI_t (anyB_t hi (by simp [hkP, *]))).symm rfl
theorem t_T_hasKeyed {X : RAM} {o c : Nat} {a m : Int32} (hT : isT o) (hc : X o 2 = nI c) (hc4 : c ≤ 4) : CG l D ac b y_T_hasKeyed c_T_hasKeyed 5 (some .boolean) 0 0 [.ref o, .int a, .int m] X (some (.int (bI (anyB (hkP X o a m) c)))) (X) := by
  refine Ct_of false (by decide) (fun h => by cases h) (Nat.le_of_ble_eq_true rfl) ?_
  show V l D ac b "SpanStore$Table" c_T_hasKeyed 5 (some .boolean) false 0 0 0 0 ((some (.int (bI (anyB (hkP X o a m) c)))), 144, mk (X)) 0 0 0 [(0, .ref o), (1, .int a), (2, .int m)] [] 144 (mk X)
  refine s_iconst (v := 0) (q := 1) d_T_hasKeyed_0 rfl ki_0 ?_
  refine s_istore_n (q := 2) d_T_hasKeyed_1 rfl (by decide) ?_
  exact s_lv (lv' := [(0, .ref o), (1, .int a), (2, .int m), (3, .int (nI 0))]) ⟨rfl, rfl, rfl, rfl, trivial⟩ (lp_T_hasKeyed hT hc hc4 0 (Nat.zero_le c) (fun j hj => by omega))
def thS (X : RAM) (o : Nat) : Nat → Int32
  | 0 => 1000
  | k + 1 => if X (o + 51 + k) 0 = 3 then (if X (o + 51 + k) 1 - 1 < thS X o k then X (o + 51 + k) 1 - 1 else thS X o k) else thS X o k
theorem lp_T_top {X : RAM} {o c : Nat} (hT : isT o) (hc : X o 2 = nI c) (hc4 : c ≤ 4) : ∀ i, i ≤ c → V l D ac b "SpanStore$Table" c_T_topHiddenAmount 3 (some .int) false 1 21 0 0 ((some (.int (thS X o c))), 144, mk X) 0 0 6 [(0, .ref o), (1, .int (thS X o i)), (2, .int (nI i))] [] 144 (mk X) := by
  refine nat_down ?_ (fun i hi ih => ?_)
  · skip
    refine s_iload_n (q := 7) d_T_topHiddenAmount_6 rfl rfl ?_
    refine s_aload_n (q := 8) d_T_topHiddenAmount_7 rfl rfl (Or.inr ⟨_, rfl⟩) ?_
    refine g_getv (v := nI c) (q := 11) d_T_topHiddenAmount_8 rfl fl_T_25 hT.1 rfl hc ?_
    refine s_icmp_ge (tgt := 49) (q := 14) d_T_topHiddenAmount_11 (by decide) rfl (fun _ => ?_) (fun z => absurd (nI_le (Nat.le_refl c) (by omega)) z)
    refine s_iload_n (q := 50) d_T_topHiddenAmount_49 rfl rfl ?_
    exact g_iret d_T_topHiddenAmount_50 rfl rfl rfl rfl
  · skip
    refine s_iload_n (q := 7) d_T_topHiddenAmount_6 rfl rfl ?_
    refine s_aload_n (q := 8) d_T_topHiddenAmount_7 rfl rfl (Or.inr ⟨_, rfl⟩) ?_
    refine g_getv (v := nI c) (q := 11) d_T_topHiddenAmount_8 rfl fl_T_25 hT.1 rfl hc ?_
    refine s_icmp_ge (tgt := 49) (q := 14) d_T_topHiddenAmount_11 (by decide) rfl (fun z => absurd z (nI_ge hi (by omega))) (fun _ => ?_)
    refine s_aload_n (q := 15) d_T_topHiddenAmount_14 rfl rfl (Or.inr ⟨_, rfl⟩) ?_
    refine g_getr (q := 18) d_T_topHiddenAmount_15 rfl fl_T_19 hT.1 rfl ?_
    refine s_iload_n (q := 19) d_T_topHiddenAmount_18 rfl rfl ?_
    refine g_aald (q := 20) d_T_topHiddenAmount_19 rfl hT.2.2.1 (by decide) rfl (by decide) rfl (by omega) rfl ?_
    refine g_geti (q := 23) d_T_topHiddenAmount_20 rfl fl_T_58 (hT.2.2.2.2 _ (by omega)) rfl ?_
    refine s_iconst (v := 3) (q := 24) d_T_topHiddenAmount_23 rfl ki_3 ?_
    refine s_icmp_ne (tgt := 43) (q := 27) d_T_topHiddenAmount_24 (by decide) rfl (fun h_24 => ?_) (fun h_24 => ?_)
    · -- T 24
      rw [show thS X o (i + 1) = thS X o i from by simp [thS, h_24]] at ih
      refine s_iinc (q := 46) d_T_topHiddenAmount_43 rfl rfl (by first | exact inc1 _ | rfl) (by decide) ?_
      refine s_goto (tgt := 6) d_T_topHiddenAmount_46 (by decide) ?_
      exact s_lv (lv' := [(0, .ref o), (1, .int _), (2, .int (nI (i + 1)))]) ⟨rfl, rfl, rfl, trivial⟩ ih
    · -- F 24
      rw [show thS X o (i + 1) = (if X (o + 51 + i) 1 - 1 < thS X o i then X (o + 51 + i) 1 - 1 else thS X o i) from by simp [thS, h_24]] at ih
      refine s_iload_n (q := 28) d_T_topHiddenAmount_27 rfl rfl ?_
      refine s_aload_n (q := 29) d_T_topHiddenAmount_28 rfl rfl (Or.inr ⟨_, rfl⟩) ?_
      refine g_getr (q := 32) d_T_topHiddenAmount_29 rfl fl_T_19 hT.1 rfl ?_
      refine s_iload_n (q := 33) d_T_topHiddenAmount_32 rfl rfl ?_
      refine g_aald (q := 34) d_T_topHiddenAmount_33 rfl hT.2.2.1 (by decide) rfl (by decide) rfl (by omega) rfl ?_
      refine g_geti (q := 37) d_T_topHiddenAmount_34 rfl fl_T_61 (hT.2.2.2.2 _ (by omega)) rfl ?_
      refine s_iconst (v := 1) (q := 38) d_T_topHiddenAmount_37 rfl ki_1 ?_
      refine s_isub (q := 39) d_T_topHiddenAmount_38 rfl ?_
      refine s_min (q := 42) d_T_topHiddenAmount_39 rfl ml_T_88 (Nat.le_of_ble_eq_true rfl) (by decide) (by decide) ⟨Nat.le_refl _, Nat.le_refl _⟩ ?_
      refine s_istore_n (q := 43) d_T_topHiddenAmount_42 rfl (by decide) ?_
      refine s_iinc (q := 46) d_T_topHiddenAmount_43 rfl rfl (by first | exact inc1 _ | rfl) (by decide) ?_
      refine s_goto (tgt := 6) d_T_topHiddenAmount_46 (by decide) ?_
      exact s_lv (lv' := [(0, .ref o), (1, .int _), (2, .int (nI (i + 1)))]) ⟨rfl, rfl, rfl, trivial⟩ ih
theorem t_T_top {X : RAM} {o c : Nat} (hT : isT o) (hc : X o 2 = nI c) (hc4 : c ≤ 4) : CG l D ac b y_T_topHiddenAmount c_T_topHiddenAmount 3 (some .int) 1 21 [.ref o] X (some (.int (thS X o c))) (X) := by
  refine Ct_of false (by decide) (fun h => by cases h) (Nat.le_of_ble_eq_true rfl) ?_
  show V l D ac b "SpanStore$Table" c_T_topHiddenAmount 3 (some .int) false 1 21 0 0 ((some (.int (thS X o c))), 144, mk (X)) 0 0 0 [(0, .ref o)] [] 144 (mk X)
  refine s_sipush (v := 1000) (q := 3) d_T_topHiddenAmount_0 rfl kh_1000 ?_
  refine s_istore_n (q := 4) d_T_topHiddenAmount_3 rfl (by decide) ?_
  refine s_iconst (v := 0) (q := 5) d_T_topHiddenAmount_4 rfl ki_0 ?_
  refine s_istore_n (q := 6) d_T_topHiddenAmount_5 rfl (by decide) ?_
  exact s_lv (lv' := [(0, .ref o), (1, .int (thS X o 0)), (2, .int (nI 0))]) ⟨rfl, rfl, rfl, trivial⟩ (lp_T_top hT hc hc4 0 (Nat.zero_le c))
def ikP (X : RAM) (o bo k : Nat) (i : Nat) : Bool := kpV X (o + 51 + i) bo k
theorem lp_T_isKept {X : RAM} {o c bo n k : Nat} (hT : isT o) (hc : X o 2 = nI c) (hc4 : c ≤ 4) (hB : isB bo) (hsz : X bo 5 = nI n) (hn : n ≤ 12) (hk : k < n) : ∀ i, i ≤ c → (∀ j, j < i → ikP X o bo k j = false) → V l D ac b "SpanStore$Table" c_T_isKept 4 (some .boolean) false 2 45 0 0 ((some (.int (bI (anyB (ikP X o bo k) c)))), 144, mk X) 0 0 2 [(0, .ref o), (1, .ref bo), (2, .int (nI k)), (3, .int (nI i))] [] 144 (mk X) := by
  refine nat_down ?_ (fun i hi ih => ?_)
  · skip
    intro hp
    refine s_iload_n (q := 3) d_T_isKept_2 rfl rfl ?_
    refine s_aload_n (q := 4) d_T_isKept_3 rfl rfl (Or.inr ⟨_, rfl⟩) ?_
    refine g_getv (v := nI c) (q := 7) d_T_isKept_4 rfl fl_T_25 hT.1 rfl hc ?_
    refine s_icmp_ge (tgt := 32) (q := 10) d_T_isKept_7 (by decide) rfl (fun _ => ?_) (fun z => absurd (nI_le (Nat.le_refl c) (by omega)) z)
    refine s_iconst (v := 0) (q := 33) d_T_isKept_32 rfl ki_0 ?_
    exact g_iret d_T_isKept_33 rfl rfl (bI_f (anyB_f hp)).symm rfl
  · skip
    intro hp
    refine s_iload_n (q := 3) d_T_isKept_2 rfl rfl ?_
    refine s_aload_n (q := 4) d_T_isKept_3 rfl rfl (Or.inr ⟨_, rfl⟩) ?_
    refine g_getv (v := nI c) (q := 7) d_T_isKept_4 rfl fl_T_25 hT.1 rfl hc ?_
    refine s_icmp_ge (tgt := 32) (q := 10) d_T_isKept_7 (by decide) rfl (fun z => absurd z (nI_ge hi (by omega))) (fun _ => ?_)
    refine s_aload_n (q := 11) d_T_isKept_10 rfl rfl (Or.inr ⟨_, rfl⟩) ?_
    refine g_getr (q := 14) d_T_isKept_11 rfl fl_T_19 hT.1 rfl ?_
    refine s_iload_n (q := 15) d_T_isKept_14 rfl rfl ?_
    refine g_aald (q := 16) d_T_isKept_15 rfl hT.2.2.1 (by decide) rfl (by decide) rfl (by omega) rfl ?_
    refine s_aload_n (q := 17) d_T_isKept_16 rfl rfl (Or.inr ⟨_, rfl⟩) ?_
    refine s_iload_n (q := 18) d_T_isKept_17 rfl rfl ?_
    refine g_callV (q := 21) d_T_isKept_18 rfl ml_T_100 mx_K_keeps mv_K_keeps (t_K_keeps (hT.2.2.2.2 _ (by omega)) hB hsz hn hk) (hT.2.2.2.2 _ (by omega)) rfl rfl (Nat.le_of_ble_eq_true rfl) (by decide) ?_
    refine s_if_eq (tgt := 26) (q := 24) d_T_isKept_21 (by decide) rfl (fun h_21 => ?_) (fun h_21 => ?_)
    · -- T 21
      refine s_iinc (q := 29) d_T_isKept_26 rfl rfl (by first | exact inc1 _ | rfl) (by decide) ?_
      refine s_goto (tgt := 2) d_T_isKept_29 (by decide) ?_
      refine s_lv (lv' := [(0, .ref o), (1, .ref bo), (2, .int (nI k)), (3, .int (nI (i + 1)))]) ⟨rfl, rfl, rfl, rfl, trivial⟩ (ih (fun j hj => ?_))
      by_cases hji : j = i
      · subst hji; rw [bI_0] at h_21; exact h_21
      · exact hp j (by omega)
    · -- F 21
      refine s_iconst (v := 1) (q := 25) d_T_isKept_24 rfl ki_1 ?_
      exact g_iret d_T_isKept_25 rfl rfl (bI_t (anyB_t hi (bI_n0.mp h_21))).symm rfl
theorem t_T_isKept {X : RAM} {o c bo n k : Nat} (hT : isT o) (hc : X o 2 = nI c) (hc4 : c ≤ 4) (hB : isB bo) (hsz : X bo 5 = nI n) (hn : n ≤ 12) (hk : k < n) : CG l D ac b y_T_isKept c_T_isKept 4 (some .boolean) 2 45 [.ref o, .ref bo, .int (nI k)] X (some (.int (bI (anyB (ikP X o bo k) c)))) (X) := by
  refine Ct_of false (by decide) (fun h => by cases h) (Nat.le_of_ble_eq_true rfl) ?_
  show V l D ac b "SpanStore$Table" c_T_isKept 4 (some .boolean) false 2 45 0 0 ((some (.int (bI (anyB (ikP X o bo k) c)))), 144, mk (X)) 0 0 0 [(0, .ref o), (1, .ref bo), (2, .int (nI k))] [] 144 (mk X)
  refine s_iconst (v := 0) (q := 1) d_T_isKept_0 rfl ki_0 ?_
  refine s_istore_n (q := 2) d_T_isKept_1 rfl (by decide) ?_
  exact s_lv (lv' := [(0, .ref o), (1, .ref bo), (2, .int (nI k)), (3, .int (nI 0))]) ⟨rfl, rfl, rfl, rfl, trivial⟩ (lp_T_isKept hT hc hc4 hB hsz hn hk 0 (Nat.zero_le c) (fun j hj => by omega))
def krS (X : RAM) (o bo c : Nat) : Nat → RAM
  | 0 => X
  | i + 1 => if anyB (ikP X o bo i) c = true then kwX (krS X o bo c i) bo i else krS X o bo c i
theorem kwX_ne {X : RAM} {o k a : Nat} (h1 : a ≠ o) (h2 : a ≠ o + 4) : kwX X o k a = X a := by
  unfold kwX
  split
  · rw [up2_ne h1, up2_ne h2]
  · rfl
theorem krS_ne {X : RAM} {o bo c a : Nat} (h1 : a ≠ bo) (h2 : a ≠ bo + 4) (i : Nat) : krS X o bo c i a = X a := by
  induction i with
  | zero => rfl
  | succ i ih =>
    unfold krS
    split
    · exact (kwX_ne h1 h2).trans ih
    · exact ih
theorem krS_o {X : RAM} {o bo c j : Nat} (h : j ≠ 6) (i : Nat) : krS X o bo c i bo j = X bo j := by
  induction i with
  | zero => rfl
  | succ i ih =>
    unfold krS
    split
    · exact (kwX_o h).trans ih
    · exact ih
theorem kpV_same {X Y : RAM} {ko o k : Nat} (h0 : Y ko = X ko) (h1 : Y (o + 1) = X (o + 1)) (h2 : Y (o + 2) = X (o + 2)) (h3 : Y (o + 3) = X (o + 3)) : kpV Y ko o k = kpV X ko o k := by
  have : eqG Y o k = eqG X o k := by unfold eqG; rw [h2]
  unfold kpV
  rw [h0, h1, h3, this]
theorem anyB_congr {p q : Nat → Bool} {n : Nat} (h : ∀ i, i < n → p i = q i) : anyB p n = anyB q n := by
  induction n with
  | zero => rfl
  | succ n ih => unfold anyB; rw [ih (fun i hi => h i (by omega)), h n (by omega)]
theorem ikP_same {X : RAM} {o bo c k c2 i : Nat} (hk : ∀ k, k < c2 → o + 51 + k ≠ bo ∧ o + 51 + k ≠ bo + 4) : anyB (ikP (krS X o bo c i) o bo k) c2 = anyB (ikP X o bo k) c2 :=
  anyB_congr (fun j hj => kpV_same (krS_ne (hk j hj).1 (hk j hj).2 i) (krS_ne (by omega) (by omega) i) (krS_ne (by omega) (by omega) i) (krS_ne (by omega) (by omega) i))
theorem lp_T_keepRows {X : RAM} {o c bo n : Nat} (hT : isT o) (hc : X o 2 = nI c) (hc4 : c ≤ 4) (hB : isB bo) (hsz : X bo 5 = nI n) (hn : n ≤ 12) (ho : o < bo ∧ bo + 5 < o + 51) : ∀ i, i ≤ n → V l D ac b "SpanStore$Table" c_T_keepRows 3 none false 3 68 0 0 (none, 144, mk (krS X o bo c n)) 0 0 2 [(0, .ref o), (1, .ref bo), (2, .int (nI i))] [] 144 (mk (krS X o bo c i)) := by
  refine nat_down ?_ (fun i hi ih => ?_)
  · skip
    refine s_iload_n (q := 3) d_T_keepRows_2 rfl rfl ?_
    refine s_aload_n (q := 4) d_T_keepRows_3 rfl rfl (Or.inr ⟨_, rfl⟩) ?_
    refine g_getv (v := nI n) (q := 7) d_T_keepRows_4 rfl fl_T_52 hB.1 rfl ((krS_o (by decide) _).trans hsz) ?_
    refine s_icmp_ge (tgt := 30) (q := 10) d_T_keepRows_7 (by decide) rfl (fun _ => ?_) (fun z => absurd (nI_le (Nat.le_refl n) (by omega)) z)
    exact g_ret d_T_keepRows_30 rfl rfl
  · skip
    refine s_iload_n (q := 3) d_T_keepRows_2 rfl rfl ?_
    refine s_aload_n (q := 4) d_T_keepRows_3 rfl rfl (Or.inr ⟨_, rfl⟩) ?_
    refine g_getv (v := nI n) (q := 7) d_T_keepRows_4 rfl fl_T_52 hB.1 rfl ((krS_o (by decide) _).trans hsz) ?_
    refine s_icmp_ge (tgt := 30) (q := 10) d_T_keepRows_7 (by decide) rfl (fun z => absurd z (nI_ge hi (by omega))) (fun _ => ?_)
    refine s_aload_n (q := 11) d_T_keepRows_10 rfl rfl (Or.inr ⟨_, rfl⟩) ?_
    refine s_aload_n (q := 12) d_T_keepRows_11 rfl rfl (Or.inr ⟨_, rfl⟩) ?_
    refine s_iload_n (q := 13) d_T_keepRows_12 rfl rfl ?_
    refine g_callV (q := 16) d_T_keepRows_13 rfl ml_T_93 mx_T_isKept mv_T_isKept (t_T_isKept (c := c) hT (by rw [krS_ne (by omega) (by omega), hc]) hc4 hB ((krS_o (by decide) _).trans hsz) hn hi) hT.1 rfl rfl (Nat.le_of_ble_eq_true rfl) (by decide) ?_
    rw [ikP_same (fun k hk => by omega)]
    refine s_if_eq (tgt := 24) (q := 19) d_T_keepRows_16 (by decide) rfl (fun h_16 => ?_) (fun h_16 => ?_)
    · -- T 16
      rw [bI_0] at h_16
      rw [show krS X o bo c (i + 1) = krS X o bo c i from by simp [krS, h_16]] at ih
      refine s_iinc (q := 27) d_T_keepRows_24 rfl rfl (by first | exact inc1 _ | rfl) (by decide) ?_
      refine s_goto (tgt := 2) d_T_keepRows_27 (by decide) ?_
      exact s_lv (lv' := [(0, .ref o), (1, .ref bo), (2, .int (nI (i + 1)))]) ⟨rfl, rfl, rfl, trivial⟩ ih
    · -- F 16
      rw [bI_n0] at h_16
      rw [show krS X o bo c (i + 1) = kwX (krS X o bo c i) bo i from by simp [krS, h_16]] at ih
      refine s_aload_n (q := 20) d_T_keepRows_19 rfl rfl (Or.inr ⟨_, rfl⟩) ?_
      refine s_iload_n (q := 21) d_T_keepRows_20 rfl rfl ?_
      refine g_callV (q := 24) d_T_keepRows_21 rfl ml_T_97 mx_B_know mv_B_know (t_B_know hB ((krS_o (by decide) _).trans hsz) hn hi) hB.1 rfl rfl (Nat.le_of_ble_eq_true rfl) (by decide) ?_
      refine s_iinc (q := 27) d_T_keepRows_24 rfl rfl (by first | exact inc1 _ | rfl) (by decide) ?_
      refine s_goto (tgt := 2) d_T_keepRows_27 (by decide) ?_
      exact s_lv (lv' := [(0, .ref o), (1, .ref bo), (2, .int (nI (i + 1)))]) ⟨rfl, rfl, rfl, trivial⟩ ih
theorem t_T_keepRows {X : RAM} {o c bo n : Nat} (hT : isT o) (hc : X o 2 = nI c) (hc4 : c ≤ 4) (hB : isB bo) (hsz : X bo 5 = nI n) (hn : n ≤ 12) (ho : o < bo ∧ bo + 5 < o + 51) : CG l D ac b y_T_keepRows c_T_keepRows 3 none 3 68 [.ref o, .ref bo] X (none) (krS X o bo c n) := by
  refine Ct_of false (by decide) (fun h => by cases h) (Nat.le_of_ble_eq_true rfl) ?_
  show V l D ac b "SpanStore$Table" c_T_keepRows 3 none false 3 68 0 0 ((none), 144, mk (krS X o bo c n)) 0 0 0 [(0, .ref o), (1, .ref bo)] [] 144 (mk X)
  refine s_iconst (v := 0) (q := 1) d_T_keepRows_0 rfl ki_0 ?_
  refine s_istore_n (q := 2) d_T_keepRows_1 rfl (by decide) ?_
  exact s_lv (lv' := [(0, .ref o), (1, .ref bo), (2, .int (nI 0))]) ⟨rfl, rfl, rfl, trivial⟩ (lp_T_keepRows hT hc hc4 hB hsz hn ho 0 (Nat.zero_le n))
def clB (X Y : RAM) (o c bo : Nat) : RAM := msX (krS Y o bo c (szN X bo)) bo (szN X bo) (thS X o c)
def clS (X : RAM) (o c : Nat) : Nat → RAM
  | 0 => X
  | j + 1 => clB X (clS X o c j) o c (o + 3 + 6 * j)
theorem msX_ne {X : RAM} {o n a : Nat} {m : Int32} (h : a ≠ o) : msX X o n m a = X a := by
  unfold msX meX
  simp only [up2_ne h]
theorem msX_5 {X : RAM} {o n j : Nat} {m : Int32} (h : j < 7) : msX X o n m o j = X o j := by
  unfold msX meX
  rw [up2_same (by omega), up2_same (by omega), up2_same (by omega), up2_same (by omega), up2_same (by omega), up2_same (by omega), up2_same (by omega)]
theorem clB_ne {X Y : RAM} {o c bo a : Nat} (h1 : a ≠ bo) (h2 : a ≠ bo + 4) : clB X Y o c bo a = Y a := by
  unfold clB
  rw [msX_ne h1, krS_ne h1 h2]
theorem clS_ne {X : RAM} {o c a : Nat} (h : ∀ j, j < 8 → a ≠ o + 3 + 6 * j ∧ a ≠ o + 3 + 6 * j + 4) (i : Nat) (hi : i ≤ 8) : clS X o c i a = X a := by
  induction i with
  | zero => rfl
  | succ i ih =>
    unfold clS
    rw [clB_ne (h i (by omega)).1 (h i (by omega)).2]
    exact ih (by omega)
theorem clS_5 {X : RAM} {o c : Nat} (k : Nat) (i : Nat) : clS X o c i (o + 3 + 6 * k) 5 = X (o + 3 + 6 * k) 5 := by
  induction i with
  | zero => rfl
  | succ i ih =>
    unfold clS
    by_cases h : k = i
    · subst h
      unfold clB
      rw [msX_5 (by decide), krS_o (by decide)]
      exact ih
    · rw [clB_ne (by omega) (by omega)]
      exact ih
def clX (X : RAM) (o c : Nat) : RAM := up2 (clS X o c 8) o 3 1
theorem lp_T_close {X : RAM} {o c : Nat} (hT : isT o) (hc : X o 2 = nI c) (hc4 : c ≤ 4) (hZ : okZ X o) : ∀ i, i ≤ 8 → V l D ac b "SpanStore$Table" c_T_close 3 none false 4 90 0 0 (none, 144, mk (clX X o c)) 0 0 7 [(0, .ref o), (1, .int (thS X o c)), (2, .int (nI i))] [] 144 (mk (clS X o c i)) := by
  refine nat_down ?_ (fun i hi ih => ?_)
  · skip
    refine s_iload_n (q := 8) d_T_close_7 rfl rfl ?_
    refine s_bipush (v := 8) (q := 10) d_T_close_8 rfl kb_8 ?_
    refine s_icmp_ge (tgt := 39) (q := 13) d_T_close_10 (by decide) rfl (fun _ => ?_) (fun z => absurd le8 z)
    refine s_aload_n (q := 40) d_T_close_39 rfl rfl (Or.inr ⟨_, rfl⟩) ?_
    refine s_iconst (v := 1) (q := 41) d_T_close_40 rfl ki_1 ?_
    refine g_puti (q := 44) d_T_close_41 rfl fl_T_45 rfl (okB (by first | exact Or.inl rfl | exact Or.inr rfl | assumption)) hT.1 rfl ?_
    exact g_ret d_T_close_44 rfl rfl
  · skip
    refine s_iload_n (q := 8) d_T_close_7 rfl rfl ?_
    refine s_bipush (v := 8) (q := 10) d_T_close_8 rfl kb_8 ?_
    refine s_icmp_ge (tgt := 39) (q := 13) d_T_close_10 (by decide) rfl (fun z => absurd z (nle8 hi)) (fun _ => ?_)
    refine s_aload_n (q := 14) d_T_close_13 rfl rfl (Or.inr ⟨_, rfl⟩) ?_
    refine s_aload_n (q := 15) d_T_close_14 rfl rfl (Or.inr ⟨_, rfl⟩) ?_
    refine g_getr (q := 18) d_T_close_15 rfl fl_T_11 hT.1 rfl ?_
    refine s_iload_n (q := 19) d_T_close_18 rfl rfl ?_
    refine g_aald (q := 20) d_T_close_19 rfl hT.2.1 (by decide) rfl (by decide) rfl hi rfl ?_
    refine g_callV (q := 23) d_T_close_20 rfl ml_T_37 mx_T_keepRows mv_T_keepRows (t_T_keepRows (c := c) hT (by rw [clS_ne (fun j hj => by omega) i (by omega), hc]) hc4 (hT.2.2.2.1 _ hi) ((clS_5 i i).trans (hZ i hi).1) (hZ i hi).2 (by omega)) hT.1 rfl rfl (Nat.le_of_ble_eq_true rfl) (by decide) ?_
    refine s_aload_n (q := 24) d_T_close_23 rfl rfl (Or.inr ⟨_, rfl⟩) ?_
    refine g_getr (q := 27) d_T_close_24 rfl fl_T_11 hT.1 rfl ?_
    refine s_iload_n (q := 28) d_T_close_27 rfl rfl ?_
    refine g_aald (q := 29) d_T_close_28 rfl hT.2.1 (by decide) rfl (by decide) rfl hi rfl ?_
    refine s_iload_n (q := 30) d_T_close_29 rfl rfl ?_
    refine g_callV (q := 33) d_T_close_30 rfl ml_T_41 mx_B_measure mv_B_measure (t_B_measure (hT.2.2.2.1 _ hi) ((krS_o (by decide) _).trans ((clS_5 i i).trans (hZ i hi).1)) (hZ i hi).2) (hT.2.2.2.1 _ hi).1 rfl rfl (Nat.le_of_ble_eq_true rfl) (by decide) ?_
    refine s_iinc (q := 36) d_T_close_33 rfl rfl (by first | exact inc1 _ | rfl) (by decide) ?_
    refine s_goto (tgt := 7) d_T_close_36 (by decide) ?_
    exact s_lv (lv' := [(0, .ref o), (1, .int (thS X o c)), (2, .int (nI (i + 1)))]) ⟨rfl, rfl, rfl, trivial⟩ ih
theorem t_T_close {X : RAM} {o c : Nat} (hT : isT o) (hc : X o 2 = nI c) (hc4 : c ≤ 4) (hZ : okZ X o) : CG l D ac b y_T_close c_T_close 3 none 4 90 [.ref o] X (none) (clX X o c) := by
  refine Ct_of false (by decide) (fun h => by cases h) (Nat.le_of_ble_eq_true rfl) ?_
  show V l D ac b "SpanStore$Table" c_T_close 3 none false 4 90 0 0 ((none), 144, mk (clX X o c)) 0 0 0 [(0, .ref o)] [] 144 (mk X)
  refine s_aload_n (q := 1) d_T_close_0 rfl rfl (Or.inr ⟨_, rfl⟩) ?_
  refine g_callV (q := 4) d_T_close_1 rfl ml_T_33 mx_T_topHiddenAmount mv_T_topHiddenAmount (t_T_top hT hc hc4) hT.1 rfl rfl (Nat.le_of_ble_eq_true rfl) (by decide) ?_
  refine s_istore_n (q := 5) d_T_close_4 rfl (by decide) ?_
  refine s_iconst (v := 0) (q := 6) d_T_close_5 rfl ki_0 ?_
  refine s_istore_n (q := 7) d_T_close_6 rfl (by decide) ?_
  exact s_lv (lv' := [(0, .ref o), (1, .int (thS X o c)), (2, .int (nI 0))]) ⟨rfl, rfl, rfl, trivial⟩ (lp_T_close hT hc hc4 hZ 0 (Nat.zero_le 8))
def emB (X : RAM) (bo : Nat) : RAM := filA (up2 (up2 X bo 5 0) bo 6 0) (bo + 5) 4 0
def emS (X : RAM) (o : Nat) : Nat → RAM
  | 0 => X
  | j + 1 => emB (emS X o j) (o + 3 + 6 * j)
def emX (X : RAM) (o : Nat) : RAM := up2 (up2 (emS X o 8) o 2 0) o 3 0
theorem lp_T_empty {X : RAM} {o : Nat} (hT : isT o) : ∀ i, i ≤ 8 → V l D ac b "SpanStore$Table" c_T_empty 2 none false 2 43 0 0 (none, 144, mk (emX X o)) 0 0 2 [(0, .ref o), (1, .int (nI i))] [] 144 (mk (emS X o i)) := by
  refine nat_down ?_ (fun i hi ih => ?_)
  · skip
    refine s_iload_n (q := 3) d_T_empty_2 rfl rfl ?_
    refine s_bipush (v := 8) (q := 5) d_T_empty_3 rfl kb_8 ?_
    refine s_icmp_ge (tgt := 23) (q := 8) d_T_empty_5 (by decide) rfl (fun _ => ?_) (fun z => absurd le8 z)
    refine s_aload_n (q := 24) d_T_empty_23 rfl rfl (Or.inr ⟨_, rfl⟩) ?_
    refine s_iconst (v := 0) (q := 25) d_T_empty_24 rfl ki_0 ?_
    refine g_puti (q := 28) d_T_empty_25 rfl fl_T_25 rfl (okV_int _) hT.1 rfl ?_
    refine s_aload_n (q := 29) d_T_empty_28 rfl rfl (Or.inr ⟨_, rfl⟩) ?_
    refine s_iconst (v := 0) (q := 30) d_T_empty_29 rfl ki_0 ?_
    refine g_puti (q := 33) d_T_empty_30 rfl fl_T_45 rfl (okB (by first | exact Or.inl rfl | exact Or.inr rfl | assumption)) hT.1 rfl ?_
    exact g_ret d_T_empty_33 rfl rfl
  · skip
    refine s_iload_n (q := 3) d_T_empty_2 rfl rfl ?_
    refine s_bipush (v := 8) (q := 5) d_T_empty_3 rfl kb_8 ?_
    refine s_icmp_ge (tgt := 23) (q := 8) d_T_empty_5 (by decide) rfl (fun z => absurd z (nle8 hi)) (fun _ => ?_)
    refine s_aload_n (q := 9) d_T_empty_8 rfl rfl (Or.inr ⟨_, rfl⟩) ?_
    refine g_getr (q := 12) d_T_empty_9 rfl fl_T_11 hT.1 rfl ?_
    refine s_iload_n (q := 13) d_T_empty_12 rfl rfl ?_
    refine g_aald (q := 14) d_T_empty_13 rfl hT.2.1 (by decide) rfl (by decide) rfl hi rfl ?_
    refine g_callV (q := 17) d_T_empty_14 rfl ml_T_49 mx_B_empty mv_B_empty (t_B_empty (hT.2.2.2.1 _ hi)) (hT.2.2.2.1 _ hi).1 rfl rfl (Nat.le_of_ble_eq_true rfl) (by decide) ?_
    refine s_iinc (q := 20) d_T_empty_17 rfl rfl (by first | exact inc1 _ | rfl) (by decide) ?_
    refine s_goto (tgt := 2) d_T_empty_20 (by decide) ?_
    exact s_lv (lv' := [(0, .ref o), (1, .int (nI (i + 1)))]) ⟨rfl, rfl, trivial⟩ ih
theorem t_T_empty {X : RAM} {o : Nat} (hT : isT o) : CG l D ac b y_T_empty c_T_empty 2 none 2 43 [.ref o] X (none) (emX X o) := by
  refine Ct_of false (by decide) (fun h => by cases h) (Nat.le_of_ble_eq_true rfl) ?_
  show V l D ac b "SpanStore$Table" c_T_empty 2 none false 2 43 0 0 ((none), 144, mk (emX X o)) 0 0 0 [(0, .ref o)] [] 144 (mk X)
  refine s_iconst (v := 0) (q := 1) d_T_empty_0 rfl ki_0 ?_
  refine s_istore_n (q := 2) d_T_empty_1 rfl (by decide) ?_
  exact s_lv (lv' := [(0, .ref o), (1, .int (nI 0))]) ⟨rfl, rfl, trivial⟩ (lp_T_empty hT 0 (Nat.zero_le 8))
def akpX (X : RAM) (o c : Nat) (kd a m : Int32) : RAM := up2 (up2 (up2 (up2 X (o + 51 + c) 0 kd) (o + 51 + c) 1 a) (o + 51 + c) 2 m) o 2 (nI (c + 1))
theorem t_T_addKeeper {X : RAM} {o c : Nat} {kd a m : Int32} (hT : isT o) (hc : X o 2 = nI c) (hc4 : c < 4) : CG l D ac b y_T_addKeeper c_T_addKeeper 4 none 1 23 [.ref o, .int kd, .int a, .int m] X (none) (akpX X o c kd a m) := by
  refine Ct_of false (by decide) (fun h => by cases h) (Nat.le_of_ble_eq_true rfl) ?_
  show V l D ac b "SpanStore$Table" c_T_addKeeper 4 none false 1 23 0 0 ((none), 144, mk (akpX X o c kd a m)) 0 0 0 [(0, .ref o), (1, .int kd), (2, .int a), (3, .int m)] [] 144 (mk X)
  refine s_aload_n (q := 1) d_T_addKeeper_0 rfl rfl (Or.inr ⟨_, rfl⟩) ?_
  refine g_getv (v := nI c) (q := 4) d_T_addKeeper_1 rfl fl_T_25 hT.1 rfl hc ?_
  refine s_if_lt (tgt := 40) (q := 7) d_T_addKeeper_4 (by decide) rfl (fun z => absurd z (nI_pos (by omega))) (fun _ => ?_)
  refine s_aload_n (q := 8) d_T_addKeeper_7 rfl rfl (Or.inr ⟨_, rfl⟩) ?_
  refine g_getv (v := nI c) (q := 11) d_T_addKeeper_8 rfl fl_T_25 hT.1 rfl hc ?_
  refine s_iconst (v := 4) (q := 12) d_T_addKeeper_11 rfl ki_4 ?_
  refine s_icmp_ge (tgt := 40) (q := 15) d_T_addKeeper_12 (by decide) rfl (fun z => absurd z (nI_ge (a := c) (b := 4) hc4 (by decide))) (fun _ => ?_)
  refine s_aload_n (q := 16) d_T_addKeeper_15 rfl rfl (Or.inr ⟨_, rfl⟩) ?_
  refine g_getr (q := 19) d_T_addKeeper_16 rfl fl_T_19 hT.1 rfl ?_
  refine s_aload_n (q := 20) d_T_addKeeper_19 rfl rfl (Or.inr ⟨_, rfl⟩) ?_
  refine g_getv (v := nI c) (q := 23) d_T_addKeeper_20 rfl fl_T_25 hT.1 rfl hc ?_
  refine g_aald (q := 24) d_T_addKeeper_23 rfl hT.2.2.1 (by decide) rfl (by decide) rfl hc4 rfl ?_
  refine s_iload_n (q := 25) d_T_addKeeper_24 rfl rfl ?_
  refine s_iload_n (q := 26) d_T_addKeeper_25 rfl rfl ?_
  refine s_iload_n (q := 27) d_T_addKeeper_26 rfl rfl ?_
  refine g_callV (q := 30) d_T_addKeeper_27 rfl ml_T_29 mx_K_become mv_K_become (t_K_become (hT.2.2.2.2 _ hc4)) (hT.2.2.2.2 _ hc4) rfl rfl (Nat.le_of_ble_eq_true rfl) (by decide) ?_
  refine s_aload_n (q := 31) d_T_addKeeper_30 rfl rfl (Or.inr ⟨_, rfl⟩) ?_
  refine s_dup (q := 32) d_T_addKeeper_31 rfl rfl ?_
  refine g_getv (v := nI c) (q := 35) d_T_addKeeper_32 rfl fl_T_25 hT.1 rfl (by rw [up2_ne (by omega), up2_ne (by omega), up2_ne (by omega), hc]) ?_
  refine s_iconst (v := 1) (q := 36) d_T_addKeeper_35 rfl ki_1 ?_
  refine s_iadd (q := 37) d_T_addKeeper_36 rfl ?_
  refine g_puti (q := 40) d_T_addKeeper_37 rfl fl_T_25 rfl (okV_int _) hT.1 rfl ?_
  exact g_ret d_T_addKeeper_40 rfl (by rw [nI_s]; rfl)
end P10
end
