section
-- ===== PART A: goes FIRST, ahead of the names: the tables' words, and 'selects' of the private methods out of them =====
/-- a private method of a class that the tables say can be made, by its rows of tables_1 -/
def lw_okq (q : MethodName × Nat) : Prop := (q.1.cls ≠ "java/lang/invoke/MethodHandle" ∧ q.1.cls ≠ "java/lang/invoke/VarHandle") ∧ Cond.instantiable q.1.cls q.2 ∈ tables_1 ∧ Cond.privateMethod q.1 ∈ tables_1 ∧ Cond.instanceMethod q.1 ∈ tables_1
theorem lw_p0 : lw_okq (⟨"BlockTrees$Pad", "readBlock", "(III)Z"⟩, 8) := ⟨⟨by decide +kernel, by decide +kernel⟩, List.mem_of_getElem? (i := 74) (by decide +kernel), List.mem_of_getElem? (i := 159) (by decide +kernel), List.mem_of_getElem? (i := 160) (by decide +kernel)⟩
theorem lw_p1 : lw_okq (⟨"BlockTrees$Pad", "passes", "(C)Z"⟩, 8) := ⟨⟨by decide +kernel, by decide +kernel⟩, List.mem_of_getElem? (i := 74) (by decide +kernel), List.mem_of_getElem? (i := 163) (by decide +kernel), List.mem_of_getElem? (i := 164) (by decide +kernel)⟩
theorem lw_p2 : lw_okq (⟨"BlockTrees$Matrix", "setSort", "(IIII)V"⟩, 2) := ⟨⟨by decide +kernel, by decide +kernel⟩, List.mem_of_getElem? (i := 28) (by decide +kernel), List.mem_of_getElem? (i := 171) (by decide +kernel), List.mem_of_getElem? (i := 172) (by decide +kernel)⟩
theorem lw_p3 : lw_okq (⟨"BlockTrees$Pad", "readSame", "(III)Z"⟩, 8) := ⟨⟨by decide +kernel, by decide +kernel⟩, List.mem_of_getElem? (i := 74) (by decide +kernel), List.mem_of_getElem? (i := 184) (by decide +kernel), List.mem_of_getElem? (i := 185) (by decide +kernel)⟩
theorem lw_p4 : lw_okq (⟨"BlockTrees$Pad", "readValue", "()Z"⟩, 8) := ⟨⟨by decide +kernel, by decide +kernel⟩, List.mem_of_getElem? (i := 74) (by decide +kernel), List.mem_of_getElem? (i := 188) (by decide +kernel), List.mem_of_getElem? (i := 189) (by decide +kernel)⟩
theorem lw_p5 : lw_okq (⟨"BlockTrees$Pad", "digit", "()I"⟩, 8) := ⟨⟨by decide +kernel, by decide +kernel⟩, List.mem_of_getElem? (i := 74) (by decide +kernel), List.mem_of_getElem? (i := 192) (by decide +kernel), List.mem_of_getElem? (i := 193) (by decide +kernel)⟩
theorem lw_p6 : lw_okq (⟨"BlockTrees$Pad", "readProduct", "(III)Z"⟩, 8) := ⟨⟨by decide +kernel, by decide +kernel⟩, List.mem_of_getElem? (i := 74) (by decide +kernel), List.mem_of_getElem? (i := 200) (by decide +kernel), List.mem_of_getElem? (i := 201) (by decide +kernel)⟩
theorem lw_p7 : lw_okq (⟨"BlockTrees$Pad", "readValues", "([II)Z"⟩, 8) := ⟨⟨by decide +kernel, by decide +kernel⟩, List.mem_of_getElem? (i := 74) (by decide +kernel), List.mem_of_getElem? (i := 205) (by decide +kernel), List.mem_of_getElem? (i := 206) (by decide +kernel)⟩
theorem lw_p8 : lw_okq (⟨"BlockTrees$Pad", "readFull", "(III)Z"⟩, 8) := ⟨⟨by decide +kernel, by decide +kernel⟩, List.mem_of_getElem? (i := 74) (by decide +kernel), List.mem_of_getElem? (i := 212) (by decide +kernel), List.mem_of_getElem? (i := 213) (by decide +kernel)⟩
theorem lw_p9 : lw_okq (⟨"BlockTrees$Pad", "readParts", "(III)Z"⟩, 8) := ⟨⟨by decide +kernel, by decide +kernel⟩, List.mem_of_getElem? (i := 74) (by decide +kernel), List.mem_of_getElem? (i := 220) (by decide +kernel), List.mem_of_getElem? (i := 221) (by decide +kernel)⟩
theorem lw_p10 : lw_okq (⟨"BlockTrees", "beginChange", "()V"⟩, 6) := ⟨⟨by decide +kernel, by decide +kernel⟩, List.mem_of_getElem? (i := 13) (by decide +kernel), List.mem_of_getElem? (i := 231) (by decide +kernel), List.mem_of_getElem? (i := 232) (by decide +kernel)⟩
theorem lw_p11 : lw_okq (⟨"BlockTrees$Matrix", "roomFrom", "(III)I"⟩, 2) := ⟨⟨by decide +kernel, by decide +kernel⟩, List.mem_of_getElem? (i := 28) (by decide +kernel), List.mem_of_getElem? (i := 255) (by decide +kernel), List.mem_of_getElem? (i := 256) (by decide +kernel)⟩
theorem lw_p12 : lw_okq (⟨"BlockTrees$Matrix", "isCut", "(III)Z"⟩, 2) := ⟨⟨by decide +kernel, by decide +kernel⟩, List.mem_of_getElem? (i := 28) (by decide +kernel), List.mem_of_getElem? (i := 259) (by decide +kernel), List.mem_of_getElem? (i := 260) (by decide +kernel)⟩
theorem lw_p13 : lw_okq (⟨"BlockTrees$Matrix", "cutBlock", "(III)V"⟩, 2) := ⟨⟨by decide +kernel, by decide +kernel⟩, List.mem_of_getElem? (i := 28) (by decide +kernel), List.mem_of_getElem? (i := 291) (by decide +kernel), List.mem_of_getElem? (i := 292) (by decide +kernel)⟩
theorem lw_p14 : lw_okq (⟨"BlockTrees$Matrix", "makeSmallerFrom", "(III)I"⟩, 2) := ⟨⟨by decide +kernel, by decide +kernel⟩, List.mem_of_getElem? (i := 28) (by decide +kernel), List.mem_of_getElem? (i := 307) (by decide +kernel), List.mem_of_getElem? (i := 308) (by decide +kernel)⟩
theorem lw_p15 : lw_okq (⟨"BlockTrees$Matrix", "makePartsSmaller", "(III)I"⟩, 2) := ⟨⟨by decide +kernel, by decide +kernel⟩, List.mem_of_getElem? (i := 28) (by decide +kernel), List.mem_of_getElem? (i := 311) (by decide +kernel), List.mem_of_getElem? (i := 312) (by decide +kernel)⟩
def lw_privs_1 : List (MethodName × Nat) := [(⟨"BlockTrees$Pad", "readBlock", "(III)Z"⟩, 8), (⟨"BlockTrees$Pad", "passes", "(C)Z"⟩, 8), (⟨"BlockTrees$Matrix", "setSort", "(IIII)V"⟩, 2), (⟨"BlockTrees$Pad", "readSame", "(III)Z"⟩, 8), (⟨"BlockTrees$Pad", "readValue", "()Z"⟩, 8), (⟨"BlockTrees$Pad", "digit", "()I"⟩, 8), (⟨"BlockTrees$Pad", "readProduct", "(III)Z"⟩, 8), (⟨"BlockTrees$Pad", "readValues", "([II)Z"⟩, 8), (⟨"BlockTrees$Pad", "readFull", "(III)Z"⟩, 8), (⟨"BlockTrees$Pad", "readParts", "(III)Z"⟩, 8), (⟨"BlockTrees", "beginChange", "()V"⟩, 6), (⟨"BlockTrees$Matrix", "roomFrom", "(III)I"⟩, 2), (⟨"BlockTrees$Matrix", "isCut", "(III)Z"⟩, 2), (⟨"BlockTrees$Matrix", "cutBlock", "(III)V"⟩, 2), (⟨"BlockTrees$Matrix", "makeSmallerFrom", "(III)I"⟩, 2), (⟨"BlockTrees$Matrix", "makePartsSmaller", "(III)I"⟩, 2)]
theorem lw_r1 : ∀ q ∈ lw_privs_1, lw_okq q := List.forall_mem_cons.mpr ⟨lw_p0, List.forall_mem_cons.mpr ⟨lw_p1, List.forall_mem_cons.mpr ⟨lw_p2, List.forall_mem_cons.mpr ⟨lw_p3, List.forall_mem_cons.mpr ⟨lw_p4, List.forall_mem_cons.mpr ⟨lw_p5, List.forall_mem_cons.mpr ⟨lw_p6, List.forall_mem_cons.mpr ⟨lw_p7, List.forall_mem_cons.mpr ⟨lw_p8, List.forall_mem_cons.mpr ⟨lw_p9, List.forall_mem_cons.mpr ⟨lw_p10, List.forall_mem_cons.mpr ⟨lw_p11, List.forall_mem_cons.mpr ⟨lw_p12, List.forall_mem_cons.mpr ⟨lw_p13, List.forall_mem_cons.mpr ⟨lw_p14, List.forall_mem_cons.mpr ⟨lw_p15, fun _ h => absurd h List.not_mem_nil⟩⟩⟩⟩⟩⟩⟩⟩⟩⟩⟩⟩⟩⟩⟩⟩
theorem lw_p16 : lw_okq (⟨"BlockTrees$Matrix", "firstFilledRow", "(III)I"⟩, 2) := ⟨⟨by decide +kernel, by decide +kernel⟩, List.mem_of_getElem? (i := 28) (by decide +kernel), List.mem_of_getElem? (i := 319) (by decide +kernel), List.mem_of_getElem? (i := 320) (by decide +kernel)⟩
theorem lw_p17 : lw_okq (⟨"BlockTrees$Matrix", "firstFilledColumn", "(III)I"⟩, 2) := ⟨⟨by decide +kernel, by decide +kernel⟩, List.mem_of_getElem? (i := 28) (by decide +kernel), List.mem_of_getElem? (i := 323) (by decide +kernel), List.mem_of_getElem? (i := 324) (by decide +kernel)⟩
theorem lw_p18 : lw_okq (⟨"BlockTrees$Matrix", "joinFrom", "(LBlockTrees$Matrix;IIII)V"⟩, 2) := ⟨⟨by decide +kernel, by decide +kernel⟩, List.mem_of_getElem? (i := 28) (by decide +kernel), List.mem_of_getElem? (i := 336) (by decide +kernel), List.mem_of_getElem? (i := 337) (by decide +kernel)⟩
theorem lw_p19 : lw_okq (⟨"BlockTrees$Matrix", "joinEntries", "(LBlockTrees$Matrix;IIII)V"⟩, 2) := ⟨⟨by decide +kernel, by decide +kernel⟩, List.mem_of_getElem? (i := 28) (by decide +kernel), List.mem_of_getElem? (i := 340) (by decide +kernel), List.mem_of_getElem? (i := 341) (by decide +kernel)⟩
theorem lw_p20 : lw_okq (⟨"BlockTrees$Matrix", "transposeSorts", "(I)V"⟩, 2) := ⟨⟨by decide +kernel, by decide +kernel⟩, List.mem_of_getElem? (i := 28) (by decide +kernel), List.mem_of_getElem? (i := 361) (by decide +kernel), List.mem_of_getElem? (i := 362) (by decide +kernel)⟩
theorem lw_p21 : lw_okq (⟨"BlockTrees$Matrix", "blocksFrom", "(IIII)I"⟩, 2) := ⟨⟨by decide +kernel, by decide +kernel⟩, List.mem_of_getElem? (i := 28) (by decide +kernel), List.mem_of_getElem? (i := 411) (by decide +kernel), List.mem_of_getElem? (i := 412) (by decide +kernel)⟩
theorem lw_p22 : lw_okq (⟨"BlockTrees", "countZeros", "(LBlockTrees$Matrix;LBlockTrees$Matrix;)V"⟩, 6) := ⟨⟨by decide +kernel, by decide +kernel⟩, List.mem_of_getElem? (i := 13) (by decide +kernel), List.mem_of_getElem? (i := 499) (by decide +kernel), List.mem_of_getElem? (i := 500) (by decide +kernel)⟩
theorem lw_p23 : lw_okq (⟨"BlockTreesModel", "reads", "()I"⟩, 18) := ⟨⟨by decide +kernel, by decide +kernel⟩, List.mem_of_getElem? (i := 545) (by decide +kernel), List.mem_of_getElem? (i := 617) (by decide +kernel), List.mem_of_getElem? (i := 618) (by decide +kernel)⟩
theorem lw_p24 : lw_okq (⟨"BlockTreesModel", "letter", "()I"⟩, 18) := ⟨⟨by decide +kernel, by decide +kernel⟩, List.mem_of_getElem? (i := 545) (by decide +kernel), List.mem_of_getElem? (i := 621) (by decide +kernel), List.mem_of_getElem? (i := 622) (by decide +kernel)⟩
theorem lw_p25 : lw_okq (⟨"BlockTreesModel", "goesDown", "()V"⟩, 18) := ⟨⟨by decide +kernel, by decide +kernel⟩, List.mem_of_getElem? (i := 545) (by decide +kernel), List.mem_of_getElem? (i := 625) (by decide +kernel), List.mem_of_getElem? (i := 626) (by decide +kernel)⟩
theorem lw_p26 : lw_okq (⟨"BlockTreesModel", "readsBlock", "()V"⟩, 18) := ⟨⟨by decide +kernel, by decide +kernel⟩, List.mem_of_getElem? (i := 545) (by decide +kernel), List.mem_of_getElem? (i := 632) (by decide +kernel), List.mem_of_getElem? (i := 633) (by decide +kernel)⟩
theorem lw_p27 : lw_okq (⟨"BlockTreesModel", "laysRead", "(I)V"⟩, 18) := ⟨⟨by decide +kernel, by decide +kernel⟩, List.mem_of_getElem? (i := 545) (by decide +kernel), List.mem_of_getElem? (i := 639) (by decide +kernel), List.mem_of_getElem? (i := 640) (by decide +kernel)⟩
theorem lw_p28 : lw_okq (⟨"BlockTreesModel", "value", "()I"⟩, 18) := ⟨⟨by decide +kernel, by decide +kernel⟩, List.mem_of_getElem? (i := 545) (by decide +kernel), List.mem_of_getElem? (i := 643) (by decide +kernel), List.mem_of_getElem? (i := 644) (by decide +kernel)⟩
theorem lw_p29 : lw_okq (⟨"BlockTreesModel", "number", "()I"⟩, 18) := ⟨⟨by decide +kernel, by decide +kernel⟩, List.mem_of_getElem? (i := 545) (by decide +kernel), List.mem_of_getElem? (i := 647) (by decide +kernel), List.mem_of_getElem? (i := 648) (by decide +kernel)⟩
theorem lw_p30 : lw_okq (⟨"BlockTreesModel", "keepsValues", "(IZ)V"⟩, 18) := ⟨⟨by decide +kernel, by decide +kernel⟩, List.mem_of_getElem? (i := 545) (by decide +kernel), List.mem_of_getElem? (i := 651) (by decide +kernel), List.mem_of_getElem? (i := 652) (by decide +kernel)⟩
theorem lw_p31 : lw_okq (⟨"BlockTreesModel", "readsValues", "(I)V"⟩, 18) := ⟨⟨by decide +kernel, by decide +kernel⟩, List.mem_of_getElem? (i := 545) (by decide +kernel), List.mem_of_getElem? (i := 655) (by decide +kernel), List.mem_of_getElem? (i := 656) (by decide +kernel)⟩
def lw_privs_2 : List (MethodName × Nat) := [(⟨"BlockTrees$Matrix", "firstFilledRow", "(III)I"⟩, 2), (⟨"BlockTrees$Matrix", "firstFilledColumn", "(III)I"⟩, 2), (⟨"BlockTrees$Matrix", "joinFrom", "(LBlockTrees$Matrix;IIII)V"⟩, 2), (⟨"BlockTrees$Matrix", "joinEntries", "(LBlockTrees$Matrix;IIII)V"⟩, 2), (⟨"BlockTrees$Matrix", "transposeSorts", "(I)V"⟩, 2), (⟨"BlockTrees$Matrix", "blocksFrom", "(IIII)I"⟩, 2), (⟨"BlockTrees", "countZeros", "(LBlockTrees$Matrix;LBlockTrees$Matrix;)V"⟩, 6), (⟨"BlockTreesModel", "reads", "()I"⟩, 18), (⟨"BlockTreesModel", "letter", "()I"⟩, 18), (⟨"BlockTreesModel", "goesDown", "()V"⟩, 18), (⟨"BlockTreesModel", "readsBlock", "()V"⟩, 18), (⟨"BlockTreesModel", "laysRead", "(I)V"⟩, 18), (⟨"BlockTreesModel", "value", "()I"⟩, 18), (⟨"BlockTreesModel", "number", "()I"⟩, 18), (⟨"BlockTreesModel", "keepsValues", "(IZ)V"⟩, 18), (⟨"BlockTreesModel", "readsValues", "(I)V"⟩, 18)]
theorem lw_r2 : ∀ q ∈ lw_privs_2, lw_okq q := List.forall_mem_cons.mpr ⟨lw_p16, List.forall_mem_cons.mpr ⟨lw_p17, List.forall_mem_cons.mpr ⟨lw_p18, List.forall_mem_cons.mpr ⟨lw_p19, List.forall_mem_cons.mpr ⟨lw_p20, List.forall_mem_cons.mpr ⟨lw_p21, List.forall_mem_cons.mpr ⟨lw_p22, List.forall_mem_cons.mpr ⟨lw_p23, List.forall_mem_cons.mpr ⟨lw_p24, List.forall_mem_cons.mpr ⟨lw_p25, List.forall_mem_cons.mpr ⟨lw_p26, List.forall_mem_cons.mpr ⟨lw_p27, List.forall_mem_cons.mpr ⟨lw_p28, List.forall_mem_cons.mpr ⟨lw_p29, List.forall_mem_cons.mpr ⟨lw_p30, List.forall_mem_cons.mpr ⟨lw_p31, fun _ h => absurd h List.not_mem_nil⟩⟩⟩⟩⟩⟩⟩⟩⟩⟩⟩⟩⟩⟩⟩⟩
theorem lw_p32 : lw_okq (⟨"BlockTreesModel", "wants", "(I)V"⟩, 18) := ⟨⟨by decide +kernel, by decide +kernel⟩, List.mem_of_getElem? (i := 545) (by decide +kernel), List.mem_of_getElem? (i := 659) (by decide +kernel), List.mem_of_getElem? (i := 660) (by decide +kernel)⟩
theorem lw_p33 : lw_okq (⟨"BlockTreesModel", "goesOn", "()Z"⟩, 18) := ⟨⟨by decide +kernel, by decide +kernel⟩, List.mem_of_getElem? (i := 545) (by decide +kernel), List.mem_of_getElem? (i := 663) (by decide +kernel), List.mem_of_getElem? (i := 664) (by decide +kernel)⟩
theorem lw_p34 : lw_okq (⟨"BlockTreesModel", "counts", "()V"⟩, 18) := ⟨⟨by decide +kernel, by decide +kernel⟩, List.mem_of_getElem? (i := 545) (by decide +kernel), List.mem_of_getElem? (i := 667) (by decide +kernel), List.mem_of_getElem? (i := 668) (by decide +kernel)⟩
theorem lw_p35 : lw_okq (⟨"BlockTreesModel", "records", "()V"⟩, 18) := ⟨⟨by decide +kernel, by decide +kernel⟩, List.mem_of_getElem? (i := 545) (by decide +kernel), List.mem_of_getElem? (i := 671) (by decide +kernel), List.mem_of_getElem? (i := 672) (by decide +kernel)⟩
theorem lw_p36 : lw_okq (⟨"BlockTreesModel", "room", "(I)I"⟩, 18) := ⟨⟨by decide +kernel, by decide +kernel⟩, List.mem_of_getElem? (i := 545) (by decide +kernel), List.mem_of_getElem? (i := 675) (by decide +kernel), List.mem_of_getElem? (i := 676) (by decide +kernel)⟩
theorem lw_p37 : lw_okq (⟨"BlockTreesModel", "roomFrom", "(IIII)I"⟩, 18) := ⟨⟨by decide +kernel, by decide +kernel⟩, List.mem_of_getElem? (i := 545) (by decide +kernel), List.mem_of_getElem? (i := 679) (by decide +kernel), List.mem_of_getElem? (i := 680) (by decide +kernel)⟩
theorem lw_p38 : lw_okq (⟨"BlockTreesModel", "isThere", "(IIII)Z"⟩, 18) := ⟨⟨by decide +kernel, by decide +kernel⟩, List.mem_of_getElem? (i := 545) (by decide +kernel), List.mem_of_getElem? (i := 683) (by decide +kernel), List.mem_of_getElem? (i := 684) (by decide +kernel)⟩
theorem lw_p39 : lw_okq (⟨"BlockTreesModel", "sort", "(IIII)I"⟩, 18) := ⟨⟨by decide +kernel, by decide +kernel⟩, List.mem_of_getElem? (i := 545) (by decide +kernel), List.mem_of_getElem? (i := 687) (by decide +kernel), List.mem_of_getElem? (i := 688) (by decide +kernel)⟩
theorem lw_p40 : lw_okq (⟨"BlockTreesModel", "cuts", "(IIII)V"⟩, 18) := ⟨⟨by decide +kernel, by decide +kernel⟩, List.mem_of_getElem? (i := 545) (by decide +kernel), List.mem_of_getElem? (i := 703) (by decide +kernel), List.mem_of_getElem? (i := 704) (by decide +kernel)⟩
theorem lw_p41 : lw_okq (⟨"BlockTreesModel", "sorts", "(IIIII)V"⟩, 18) := ⟨⟨by decide +kernel, by decide +kernel⟩, List.mem_of_getElem? (i := 545) (by decide +kernel), List.mem_of_getElem? (i := 707) (by decide +kernel), List.mem_of_getElem? (i := 708) (by decide +kernel)⟩
theorem lw_p42 : lw_okq (⟨"BlockTreesModel", "get", "(III)I"⟩, 18) := ⟨⟨by decide +kernel, by decide +kernel⟩, List.mem_of_getElem? (i := 545) (by decide +kernel), List.mem_of_getElem? (i := 711) (by decide +kernel), List.mem_of_getElem? (i := 712) (by decide +kernel)⟩
theorem lw_p43 : lw_okq (⟨"BlockTreesModel", "lay", "(IIII)V"⟩, 18) := ⟨⟨by decide +kernel, by decide +kernel⟩, List.mem_of_getElem? (i := 545) (by decide +kernel), List.mem_of_getElem? (i := 715) (by decide +kernel), List.mem_of_getElem? (i := 716) (by decide +kernel)⟩
theorem lw_p44 : lw_okq (⟨"BlockTreesModel", "shrinks", "(I)V"⟩, 18) := ⟨⟨by decide +kernel, by decide +kernel⟩, List.mem_of_getElem? (i := 545) (by decide +kernel), List.mem_of_getElem? (i := 723) (by decide +kernel), List.mem_of_getElem? (i := 724) (by decide +kernel)⟩
theorem lw_p45 : lw_okq (⟨"BlockTreesModel", "shrinksBlock", "(IIII)V"⟩, 18) := ⟨⟨by decide +kernel, by decide +kernel⟩, List.mem_of_getElem? (i := 545) (by decide +kernel), List.mem_of_getElem? (i := 727) (by decide +kernel), List.mem_of_getElem? (i := 728) (by decide +kernel)⟩
theorem lw_p46 : lw_okq (⟨"BlockTreesModel", "oneness", "(IIII)I"⟩, 18) := ⟨⟨by decide +kernel, by decide +kernel⟩, List.mem_of_getElem? (i := 545) (by decide +kernel), List.mem_of_getElem? (i := 731) (by decide +kernel), List.mem_of_getElem? (i := 732) (by decide +kernel)⟩
theorem lw_p47 : lw_okq (⟨"BlockTreesModel", "firstRow", "(IIII)I"⟩, 18) := ⟨⟨by decide +kernel, by decide +kernel⟩, List.mem_of_getElem? (i := 545) (by decide +kernel), List.mem_of_getElem? (i := 735) (by decide +kernel), List.mem_of_getElem? (i := 736) (by decide +kernel)⟩
def lw_privs_3 : List (MethodName × Nat) := [(⟨"BlockTreesModel", "wants", "(I)V"⟩, 18), (⟨"BlockTreesModel", "goesOn", "()Z"⟩, 18), (⟨"BlockTreesModel", "counts", "()V"⟩, 18), (⟨"BlockTreesModel", "records", "()V"⟩, 18), (⟨"BlockTreesModel", "room", "(I)I"⟩, 18), (⟨"BlockTreesModel", "roomFrom", "(IIII)I"⟩, 18), (⟨"BlockTreesModel", "isThere", "(IIII)Z"⟩, 18), (⟨"BlockTreesModel", "sort", "(IIII)I"⟩, 18), (⟨"BlockTreesModel", "cuts", "(IIII)V"⟩, 18), (⟨"BlockTreesModel", "sorts", "(IIIII)V"⟩, 18), (⟨"BlockTreesModel", "get", "(III)I"⟩, 18), (⟨"BlockTreesModel", "lay", "(IIII)V"⟩, 18), (⟨"BlockTreesModel", "shrinks", "(I)V"⟩, 18), (⟨"BlockTreesModel", "shrinksBlock", "(IIII)V"⟩, 18), (⟨"BlockTreesModel", "oneness", "(IIII)I"⟩, 18), (⟨"BlockTreesModel", "firstRow", "(IIII)I"⟩, 18)]
theorem lw_r3 : ∀ q ∈ lw_privs_3, lw_okq q := List.forall_mem_cons.mpr ⟨lw_p32, List.forall_mem_cons.mpr ⟨lw_p33, List.forall_mem_cons.mpr ⟨lw_p34, List.forall_mem_cons.mpr ⟨lw_p35, List.forall_mem_cons.mpr ⟨lw_p36, List.forall_mem_cons.mpr ⟨lw_p37, List.forall_mem_cons.mpr ⟨lw_p38, List.forall_mem_cons.mpr ⟨lw_p39, List.forall_mem_cons.mpr ⟨lw_p40, List.forall_mem_cons.mpr ⟨lw_p41, List.forall_mem_cons.mpr ⟨lw_p42, List.forall_mem_cons.mpr ⟨lw_p43, List.forall_mem_cons.mpr ⟨lw_p44, List.forall_mem_cons.mpr ⟨lw_p45, List.forall_mem_cons.mpr ⟨lw_p46, List.forall_mem_cons.mpr ⟨lw_p47, fun _ h => absurd h List.not_mem_nil⟩⟩⟩⟩⟩⟩⟩⟩⟩⟩⟩⟩⟩⟩⟩⟩
theorem lw_p48 : lw_okq (⟨"BlockTreesModel", "firstColumn", "(IIII)I"⟩, 18) := ⟨⟨by decide +kernel, by decide +kernel⟩, List.mem_of_getElem? (i := 545) (by decide +kernel), List.mem_of_getElem? (i := 739) (by decide +kernel), List.mem_of_getElem? (i := 740) (by decide +kernel)⟩
theorem lw_p49 : lw_okq (⟨"BlockTreesModel", "areEmpty", "(IIII)Z"⟩, 18) := ⟨⟨by decide +kernel, by decide +kernel⟩, List.mem_of_getElem? (i := 545) (by decide +kernel), List.mem_of_getElem? (i := 743) (by decide +kernel), List.mem_of_getElem? (i := 744) (by decide +kernel)⟩
theorem lw_p50 : lw_okq (⟨"BlockTreesModel", "addsBlock", "(IIIIII)V"⟩, 18) := ⟨⟨by decide +kernel, by decide +kernel⟩, List.mem_of_getElem? (i := 545) (by decide +kernel), List.mem_of_getElem? (i := 751) (by decide +kernel), List.mem_of_getElem? (i := 752) (by decide +kernel)⟩
theorem lw_p51 : lw_okq (⟨"BlockTreesModel", "addsSquare", "(IIIIII)V"⟩, 18) := ⟨⟨by decide +kernel, by decide +kernel⟩, List.mem_of_getElem? (i := 545) (by decide +kernel), List.mem_of_getElem? (i := 755) (by decide +kernel), List.mem_of_getElem? (i := 756) (by decide +kernel)⟩
theorem lw_p52 : lw_okq (⟨"BlockTreesModel", "swaps", "(III)V"⟩, 18) := ⟨⟨by decide +kernel, by decide +kernel⟩, List.mem_of_getElem? (i := 545) (by decide +kernel), List.mem_of_getElem? (i := 766) (by decide +kernel), List.mem_of_getElem? (i := 767) (by decide +kernel)⟩
theorem lw_p53 : lw_okq (⟨"BlockTreesModel", "trace", "(I)I"⟩, 18) := ⟨⟨by decide +kernel, by decide +kernel⟩, List.mem_of_getElem? (i := 545) (by decide +kernel), List.mem_of_getElem? (i := 770) (by decide +kernel), List.mem_of_getElem? (i := 771) (by decide +kernel)⟩
theorem lw_p54 : lw_okq (⟨"BlockTreesModel", "depthAt", "(III)I"⟩, 18) := ⟨⟨by decide +kernel, by decide +kernel⟩, List.mem_of_getElem? (i := 545) (by decide +kernel), List.mem_of_getElem? (i := 783) (by decide +kernel), List.mem_of_getElem? (i := 784) (by decide +kernel)⟩
theorem lw_p55 : lw_okq (⟨"BlockTreesModel", "overBlocks", "(II)I"⟩, 18) := ⟨⟨by decide +kernel, by decide +kernel⟩, List.mem_of_getElem? (i := 545) (by decide +kernel), List.mem_of_getElem? (i := 799) (by decide +kernel), List.mem_of_getElem? (i := 800) (by decide +kernel)⟩
theorem lw_p56 : lw_okq (⟨"BlockTreesModel", "overEntries", "(II)I"⟩, 18) := ⟨⟨by decide +kernel, by decide +kernel⟩, List.mem_of_getElem? (i := 545) (by decide +kernel), List.mem_of_getElem? (i := 803) (by decide +kernel), List.mem_of_getElem? (i := 804) (by decide +kernel)⟩
theorem lw_p57 : lw_okq (⟨"BlockTreesModel", "allRoom", "()I"⟩, 18) := ⟨⟨by decide +kernel, by decide +kernel⟩, List.mem_of_getElem? (i := 545) (by decide +kernel), List.mem_of_getElem? (i := 846) (by decide +kernel), List.mem_of_getElem? (i := 847) (by decide +kernel)⟩
theorem lw_p58 : lw_okq (⟨"BlockTreesModel", "emptyOnes", "()I"⟩, 18) := ⟨⟨by decide +kernel, by decide +kernel⟩, List.mem_of_getElem? (i := 545) (by decide +kernel), List.mem_of_getElem? (i := 850) (by decide +kernel), List.mem_of_getElem? (i := 851) (by decide +kernel)⟩
theorem lw_p59 : lw_okq (⟨"BlockTreesModel", "putAside", "()V"⟩, 18) := ⟨⟨by decide +kernel, by decide +kernel⟩, List.mem_of_getElem? (i := 545) (by decide +kernel), List.mem_of_getElem? (i := 862) (by decide +kernel), List.mem_of_getElem? (i := 863) (by decide +kernel)⟩
theorem lw_p60 : lw_okq (⟨"BlockTreesModel", "takeBack", "()V"⟩, 18) := ⟨⟨by decide +kernel, by decide +kernel⟩, List.mem_of_getElem? (i := 545) (by decide +kernel), List.mem_of_getElem? (i := 866) (by decide +kernel), List.mem_of_getElem? (i := 867) (by decide +kernel)⟩
theorem lw_p61 : lw_okq (⟨"BlockTreesModel", "zerosBy", "(III)I"⟩, 18) := ⟨⟨by decide +kernel, by decide +kernel⟩, List.mem_of_getElem? (i := 545) (by decide +kernel), List.mem_of_getElem? (i := 878) (by decide +kernel), List.mem_of_getElem? (i := 879) (by decide +kernel)⟩
def lw_privs_4 : List (MethodName × Nat) := [(⟨"BlockTreesModel", "firstColumn", "(IIII)I"⟩, 18), (⟨"BlockTreesModel", "areEmpty", "(IIII)Z"⟩, 18), (⟨"BlockTreesModel", "addsBlock", "(IIIIII)V"⟩, 18), (⟨"BlockTreesModel", "addsSquare", "(IIIIII)V"⟩, 18), (⟨"BlockTreesModel", "swaps", "(III)V"⟩, 18), (⟨"BlockTreesModel", "trace", "(I)I"⟩, 18), (⟨"BlockTreesModel", "depthAt", "(III)I"⟩, 18), (⟨"BlockTreesModel", "overBlocks", "(II)I"⟩, 18), (⟨"BlockTreesModel", "overEntries", "(II)I"⟩, 18), (⟨"BlockTreesModel", "allRoom", "()I"⟩, 18), (⟨"BlockTreesModel", "emptyOnes", "()I"⟩, 18), (⟨"BlockTreesModel", "putAside", "()V"⟩, 18), (⟨"BlockTreesModel", "takeBack", "()V"⟩, 18), (⟨"BlockTreesModel", "zerosBy", "(III)I"⟩, 18)]
theorem lw_r4 : ∀ q ∈ lw_privs_4, lw_okq q := List.forall_mem_cons.mpr ⟨lw_p48, List.forall_mem_cons.mpr ⟨lw_p49, List.forall_mem_cons.mpr ⟨lw_p50, List.forall_mem_cons.mpr ⟨lw_p51, List.forall_mem_cons.mpr ⟨lw_p52, List.forall_mem_cons.mpr ⟨lw_p53, List.forall_mem_cons.mpr ⟨lw_p54, List.forall_mem_cons.mpr ⟨lw_p55, List.forall_mem_cons.mpr ⟨lw_p56, List.forall_mem_cons.mpr ⟨lw_p57, List.forall_mem_cons.mpr ⟨lw_p58, List.forall_mem_cons.mpr ⟨lw_p59, List.forall_mem_cons.mpr ⟨lw_p60, List.forall_mem_cons.mpr ⟨lw_p61, fun _ h => absurd h List.not_mem_nil⟩⟩⟩⟩⟩⟩⟩⟩⟩⟩⟩⟩⟩⟩
def lw_privs : List (MethodName × Nat) := lw_privs_1 ++ (lw_privs_2 ++ (lw_privs_3 ++ (lw_privs_4)))
def lw_tbl : List Cond := k2_sels lw_privs ++ tables_1
theorem lw_privs_ok : ∀ q ∈ lw_privs, lw_okq q := by
  show ∀ q ∈ lw_privs_1 ++ (lw_privs_2 ++ (lw_privs_3 ++ (lw_privs_4))), lw_okq q
  exact List.forall_mem_append.mpr ⟨lw_r1, List.forall_mem_append.mpr ⟨lw_r2, List.forall_mem_append.mpr ⟨lw_r3, lw_r4⟩⟩⟩
/-- the streams that the claim lets the run draw from -/
abbrev lw_cs : List Choice := [Jvm.Choice.named "NaN.bits"]
theorem lw_bits : nanBits ∈ lw_cs := by first | decide | exact List.mem_cons_self | simp [lw_cs, nanBits]
end
section
def RX0 : String := "BlockTrees$History"
def TX0 : u_T := fun k => match k with
  | 0 => ("BlockTrees$History", "states", "[LBlockTrees$State;", true)
  | 1 => ("BlockTrees$History", "oldest", "I", false)
  | _ => ("BlockTrees$History", "length", "I", false)
def tyX0 : Nat → FieldType := fun k => match k with
  | 0 => .array (.object "BlockTrees$State")
  | 1 => .int
  | _ => .int
theorem nmX0 : ∀ a, a < 3 → ∀ b, b < 3 → a ≠ b → (TX0 a).2.1 ≠ (TX0 b).2.1 := by decide +kernel
theorem tyX0_ok : ∀ k, k < 3 → parseFieldDescriptor (TX0 k).2.2.1 = some (tyX0 k) := by decide +kernel
abbrev cX0_init : ByteArray := prog_2_method_1_code
def yX0_init : MethodName := ⟨RX0, "<init>", "()V"⟩
abbrev cX0_keep : ByteArray := prog_2_method_2_code
def yX0_keep : MethodName := ⟨RX0, "keep", "(LBlockTrees$State;)V"⟩
abbrev cX0_takeBack : ByteArray := prog_2_method_3_code
def yX0_takeBack : MethodName := ⟨RX0, "takeBack", "(LBlockTrees$State;)V"⟩
def RX1 : String := "BlockTrees$Matrix"
def TX1 : u_T := fun k => match k with
  | 0 => ("BlockTrees$Matrix", "entries", "[I", true)
  | _ => ("BlockTrees$Matrix", "sorts", "[I", true)
def tyX1 : Nat → FieldType := fun k => match k with
  | 0 => .array .int
  | _ => .array .int
theorem nmX1 : ∀ a, a < 2 → ∀ b, b < 2 → a ≠ b → (TX1 a).2.1 ≠ (TX1 b).2.1 := by decide +kernel
theorem tyX1_ok : ∀ k, k < 2 → parseFieldDescriptor (TX1 k).2.2.1 = some (tyX1 k) := by decide +kernel
abbrev cX1_init : ByteArray := prog_3_method_1_code
def yX1_init : MethodName := ⟨RX1, "<init>", "()V"⟩
abbrev cX1_become : ByteArray := prog_3_method_2_code
def yX1_become : MethodName := ⟨RX1, "become", "(LBlockTrees$Matrix;)V"⟩
abbrev cX1_cellOf : ByteArray := prog_3_method_3_code
def yX1_cellOf : MethodName := ⟨RX1, "cellOf", "(II)I"⟩
abbrev cX1_numberOf : ByteArray := prog_3_method_4_code
def yX1_numberOf : MethodName := ⟨RX1, "numberOf", "(III)I"⟩
abbrev cX1_rowOfPart : ByteArray := prog_3_method_5_code
def yX1_rowOfPart : MethodName := ⟨RX1, "rowOfPart", "(III)I"⟩
abbrev cX1_columnOfPart : ByteArray := prog_3_method_6_code
def yX1_columnOfPart : MethodName := ⟨RX1, "columnOfPart", "(III)I"⟩
abbrev cX1_entryAt : ByteArray := prog_3_method_7_code
def yX1_entryAt : MethodName := ⟨RX1, "entryAt", "(II)I"⟩
abbrev cX1_sortOf : ByteArray := prog_3_method_8_code
def yX1_sortOf : MethodName := ⟨RX1, "sortOf", "(III)I"⟩
abbrev cX1_setSort : ByteArray := prog_3_method_9_code
def yX1_setSort : MethodName := ⟨RX1, "setSort", "(IIII)V"⟩
abbrev cX1_isCut : ByteArray := prog_3_method_10_code
def yX1_isCut : MethodName := ⟨RX1, "isCut", "(III)Z"⟩
abbrev cX1_depthOf : ByteArray := prog_3_method_11_code
def yX1_depthOf : MethodName := ⟨RX1, "depthOf", "(II)I"⟩
abbrev cX1_deepest : ByteArray := prog_3_method_12_code
def yX1_deepest : MethodName := ⟨RX1, "deepest", "()I"⟩
abbrev cX1_room : ByteArray := prog_3_method_13_code
def yX1_room : MethodName := ⟨RX1, "room", "()I"⟩
abbrev cX1_roomFrom : ByteArray := prog_3_method_14_code
def yX1_roomFrom : MethodName := ⟨RX1, "roomFrom", "(III)I"⟩
abbrev cX1_blocksOf : ByteArray := prog_3_method_15_code
def yX1_blocksOf : MethodName := ⟨RX1, "blocksOf", "(I)I"⟩
abbrev cX1_blocksFrom : ByteArray := prog_3_method_16_code
def yX1_blocksFrom : MethodName := ⟨RX1, "blocksFrom", "(IIII)I"⟩
abbrev cX1_changeEntry : ByteArray := prog_3_method_17_code
def yX1_changeEntry : MethodName := ⟨RX1, "changeEntry", "(III)V"⟩
abbrev cX1_cutBlock : ByteArray := prog_3_method_18_code
def yX1_cutBlock : MethodName := ⟨RX1, "cutBlock", "(III)V"⟩
abbrev cX1_emptyBlockOf : ByteArray := prog_3_method_19_code
def yX1_emptyBlockOf : MethodName := ⟨RX1, "emptyBlockOf", "(II)I"⟩
abbrev cX1_setEmpty : ByteArray := prog_3_method_20_code
def yX1_setEmpty : MethodName := ⟨RX1, "setEmpty", "(III)V"⟩
abbrev cX1_setThin : ByteArray := prog_3_method_21_code
def yX1_setThin : MethodName := ⟨RX1, "setThin", "(III[I[I)V"⟩
abbrev cX1_setFull : ByteArray := prog_3_method_22_code
def yX1_setFull : MethodName := ⟨RX1, "setFull", "(III[I)V"⟩
abbrev cX1_makeSmaller : ByteArray := prog_3_method_23_code
def yX1_makeSmaller : MethodName := ⟨RX1, "makeSmaller", "()I"⟩
abbrev cX1_makeSmallerFrom : ByteArray := prog_3_method_24_code
def yX1_makeSmallerFrom : MethodName := ⟨RX1, "makeSmallerFrom", "(III)I"⟩
abbrev cX1_makePartsSmaller : ByteArray := prog_3_method_25_code
def yX1_makePartsSmaller : MethodName := ⟨RX1, "makePartsSmaller", "(III)I"⟩
abbrev cX1_toldByOne : ByteArray := prog_3_method_26_code
def yX1_toldByOne : MethodName := ⟨RX1, "toldByOne", "(III)I"⟩
abbrev cX1_firstFilledRow : ByteArray := prog_3_method_27_code
def yX1_firstFilledRow : MethodName := ⟨RX1, "firstFilledRow", "(III)I"⟩
abbrev cX1_firstFilledColumn : ByteArray := prog_3_method_28_code
def yX1_firstFilledColumn : MethodName := ⟨RX1, "firstFilledColumn", "(III)I"⟩
abbrev cX1_join : ByteArray := prog_3_method_29_code
def yX1_join : MethodName := ⟨RX1, "join", "(LBlockTrees$Matrix;I)V"⟩
abbrev cX1_joinFrom : ByteArray := prog_3_method_30_code
def yX1_joinFrom : MethodName := ⟨RX1, "joinFrom", "(LBlockTrees$Matrix;IIII)V"⟩
abbrev cX1_joinEntries : ByteArray := prog_3_method_31_code
def yX1_joinEntries : MethodName := ⟨RX1, "joinEntries", "(LBlockTrees$Matrix;IIII)V"⟩
abbrev cX1_transpose : ByteArray := prog_3_method_32_code
def yX1_transpose : MethodName := ⟨RX1, "transpose", "()V"⟩
abbrev cX1_transposeSorts : ByteArray := prog_3_method_33_code
def yX1_transposeSorts : MethodName := ⟨RX1, "transposeSorts", "(I)V"⟩
abbrev cX1_swap : ByteArray := prog_3_method_34_code
def yX1_swap : MethodName := ⟨RX1, "swap", "([III)V"⟩
abbrev cX1_isItsTurned : ByteArray := prog_3_method_35_code
def yX1_isItsTurned : MethodName := ⟨RX1, "isItsTurned", "()Z"⟩
abbrev cX1_trace : ByteArray := prog_3_method_36_code
def yX1_trace : MethodName := ⟨RX1, "trace", "()I"⟩
abbrev cX1_sum : ByteArray := prog_3_method_37_code
def yX1_sum : MethodName := ⟨RX1, "sum", "()I"⟩
abbrev cX1_filledEntries : ByteArray := prog_3_method_38_code
def yX1_filledEntries : MethodName := ⟨RX1, "filledEntries", "()I"⟩
abbrev cX1_greatest : ByteArray := prog_3_method_39_code
def yX1_greatest : MethodName := ⟨RX1, "greatest", "()I"⟩
abbrev cX1_least : ByteArray := prog_3_method_40_code
def yX1_least : MethodName := ⟨RX1, "least", "()I"⟩
abbrev cX1_greatestDifference : ByteArray := prog_3_method_41_code
def yX1_greatestDifference : MethodName := ⟨RX1, "greatestDifference", "(LBlockTrees$Matrix;)I"⟩
def RX2 : String := "BlockTrees$Pad"
def TX2 : u_T := fun k => match k with
  | 0 => ("BlockTrees$Pad", "signs", "[C", true)
  | 1 => ("BlockTrees$Pad", "length", "I", false)
  | 2 => ("BlockTrees$Pad", "told", "LBlockTrees$Matrix;", true)
  | 3 => ("BlockTrees$Pad", "u", "[I", true)
  | 4 => ("BlockTrees$Pad", "v", "[I", true)
  | 5 => ("BlockTrees$Pad", "full", "[I", true)
  | 6 => ("BlockTrees$Pad", "position", "I", false)
  | _ => ("BlockTrees$Pad", "value", "I", false)
def tyX2 : Nat → FieldType := fun k => match k with
  | 0 => .array .char
  | 1 => .int
  | 2 => .object "BlockTrees$Matrix"
  | 3 => .array .int
  | 4 => .array .int
  | 5 => .array .int
  | 6 => .int
  | _ => .int
theorem nmX2 : ∀ a, a < 8 → ∀ b, b < 8 → a ≠ b → (TX2 a).2.1 ≠ (TX2 b).2.1 := by decide +kernel
theorem tyX2_ok : ∀ k, k < 8 → parseFieldDescriptor (TX2 k).2.2.1 = some (tyX2 k) := by decide +kernel
abbrev cX2_init : ByteArray := prog_4_method_1_code
def yX2_init : MethodName := ⟨RX2, "<init>", "()V"⟩
abbrev cX2_append : ByteArray := prog_4_method_2_code
def yX2_append : MethodName := ⟨RX2, "append", "(C)V"⟩
abbrev cX2_read : ByteArray := prog_4_method_3_code
def yX2_read : MethodName := ⟨RX2, "read", "()Z"⟩
abbrev cX2_readBlock : ByteArray := prog_4_method_4_code
def yX2_readBlock : MethodName := ⟨RX2, "readBlock", "(III)Z"⟩
abbrev cX2_readParts : ByteArray := prog_4_method_5_code
def yX2_readParts : MethodName := ⟨RX2, "readParts", "(III)Z"⟩
abbrev cX2_readSame : ByteArray := prog_4_method_6_code
def yX2_readSame : MethodName := ⟨RX2, "readSame", "(III)Z"⟩
abbrev cX2_readProduct : ByteArray := prog_4_method_7_code
def yX2_readProduct : MethodName := ⟨RX2, "readProduct", "(III)Z"⟩
abbrev cX2_readFull : ByteArray := prog_4_method_8_code
def yX2_readFull : MethodName := ⟨RX2, "readFull", "(III)Z"⟩
abbrev cX2_readValues : ByteArray := prog_4_method_9_code
def yX2_readValues : MethodName := ⟨RX2, "readValues", "([II)Z"⟩
abbrev cX2_readValue : ByteArray := prog_4_method_10_code
def yX2_readValue : MethodName := ⟨RX2, "readValue", "()Z"⟩
abbrev cX2_passes : ByteArray := prog_4_method_11_code
def yX2_passes : MethodName := ⟨RX2, "passes", "(C)Z"⟩
abbrev cX2_digit : ByteArray := prog_4_method_12_code
def yX2_digit : MethodName := ⟨RX2, "digit", "()I"⟩
def RX3 : String := "BlockTrees$Slot"
def TX3 : u_T := fun k => match k with
  | 0 => ("BlockTrees$Slot", "state", "LBlockTrees$State;", true)
  | _ => ("BlockTrees$Slot", "isSaved", "Z", false)
def tyX3 : Nat → FieldType := fun k => match k with
  | 0 => .object "BlockTrees$State"
  | _ => .boolean
theorem nmX3 : ∀ a, a < 2 → ∀ b, b < 2 → a ≠ b → (TX3 a).2.1 ≠ (TX3 b).2.1 := by decide +kernel
theorem tyX3_ok : ∀ k, k < 2 → parseFieldDescriptor (TX3 k).2.2.1 = some (tyX3 k) := by decide +kernel
abbrev cX3_init : ByteArray := prog_5_method_1_code
def yX3_init : MethodName := ⟨RX3, "<init>", "()V"⟩
def RX4 : String := "BlockTrees$State"
def TX4 : u_T := fun k => match k with
  | 0 => ("BlockTrees$State", "matrices", "[LBlockTrees$Matrix;", true)
  | _ => ("BlockTrees$State", "changes", "I", false)
def tyX4 : Nat → FieldType := fun k => match k with
  | 0 => .array (.object "BlockTrees$Matrix")
  | _ => .int
theorem nmX4 : ∀ a, a < 2 → ∀ b, b < 2 → a ≠ b → (TX4 a).2.1 ≠ (TX4 b).2.1 := by decide +kernel
theorem tyX4_ok : ∀ k, k < 2 → parseFieldDescriptor (TX4 k).2.2.1 = some (tyX4 k) := by decide +kernel
abbrev cX4_init : ByteArray := prog_6_method_1_code
def yX4_init : MethodName := ⟨RX4, "<init>", "()V"⟩
abbrev cX4_become : ByteArray := prog_6_method_2_code
def yX4_become : MethodName := ⟨RX4, "become", "(LBlockTrees$State;)V"⟩
abbrev cX4_room : ByteArray := prog_6_method_3_code
def yX4_room : MethodName := ⟨RX4, "room", "()I"⟩
abbrev cX4_emptyOnes : ByteArray := prog_6_method_4_code
def yX4_emptyOnes : MethodName := ⟨RX4, "emptyOnes", "()I"⟩
def RX5 : String := "BlockTrees"
def TX5 : u_T := fun k => match k with
  | 0 => ("BlockTrees", "now", "LBlockTrees$State;", true)
  | 1 => ("BlockTrees", "history", "LBlockTrees$History;", true)
  | 2 => ("BlockTrees", "slots", "[LBlockTrees$Slot;", true)
  | 3 => ("BlockTrees", "pad", "LBlockTrees$Pad;", true)
  | 4 => ("BlockTrees", "draft", "LBlockTrees$Matrix;", true)
  | _ => ("BlockTrees", "zeros", "[I", true)
def tyX5 : Nat → FieldType := fun k => match k with
  | 0 => .object "BlockTrees$State"
  | 1 => .object "BlockTrees$History"
  | 2 => .array (.object "BlockTrees$Slot")
  | 3 => .object "BlockTrees$Pad"
  | 4 => .object "BlockTrees$Matrix"
  | _ => .array .int
theorem nmX5 : ∀ a, a < 6 → ∀ b, b < 6 → a ≠ b → (TX5 a).2.1 ≠ (TX5 b).2.1 := by decide +kernel
theorem tyX5_ok : ∀ k, k < 6 → parseFieldDescriptor (TX5 k).2.2.1 = some (tyX5 k) := by decide +kernel
abbrev cX5_init : ByteArray := prog_1_method_1_code
def yX5_init : MethodName := ⟨RX5, "<init>", "()V"⟩
abbrev cX5_tell : ByteArray := prog_1_method_2_code
def yX5_tell : MethodName := ⟨RX5, "tell", "(I)I"⟩
abbrev cX5_entry : ByteArray := prog_1_method_3_code
def yX5_entry : MethodName := ⟨RX5, "entry", "(IIII)I"⟩
abbrev cX5_shrink : ByteArray := prog_1_method_4_code
def yX5_shrink : MethodName := ⟨RX5, "shrink", "(I)I"⟩
abbrev cX5_add : ByteArray := prog_1_method_5_code
def yX5_add : MethodName := ⟨RX5, "add", "(III)I"⟩
abbrev cX5_turn : ByteArray := prog_1_method_6_code
def yX5_turn : MethodName := ⟨RX5, "turn", "(I)I"⟩
abbrev cX5_copy : ByteArray := prog_1_method_7_code
def yX5_copy : MethodName := ⟨RX5, "copy", "(II)I"⟩
abbrev cX5_clear : ByteArray := prog_1_method_8_code
def yX5_clear : MethodName := ⟨RX5, "clear", "(III)I"⟩
abbrev cX5_at : ByteArray := prog_1_method_9_code
def yX5_at : MethodName := ⟨RX5, "at", "(III)I"⟩
abbrev cX5_block : ByteArray := prog_1_method_10_code
def yX5_block : MethodName := ⟨RX5, "block", "(IIII)I"⟩
abbrev cX5_of : ByteArray := prog_1_method_11_code
def yX5_of : MethodName := ⟨RX5, "of", "(II)I"⟩
abbrev cX5_product : ByteArray := prog_1_method_12_code
def yX5_product : MethodName := ⟨RX5, "product", "(IIII)J"⟩
abbrev cX5_mean : ByteArray := prog_1_method_13_code
def yX5_mean : MethodName := ⟨RX5, "mean", "(I)J"⟩
abbrev cX5_share : ByteArray := prog_1_method_14_code
def yX5_share : MethodName := ⟨RX5, "share", "(I)I"⟩
abbrev cX5_count : ByteArray := prog_1_method_15_code
def yX5_count : MethodName := ⟨RX5, "count", "(I)I"⟩
abbrev cX5_far : ByteArray := prog_1_method_16_code
def yX5_far : MethodName := ⟨RX5, "far", "(II)I"⟩
abbrev cX5_wouldTake : ByteArray := prog_1_method_17_code
def yX5_wouldTake : MethodName := ⟨RX5, "wouldTake", "(I)I"⟩
abbrev cX5_isOne : ByteArray := prog_1_method_18_code
def yX5_isOne : MethodName := ⟨RX5, "isOne", "(IIII)I"⟩
abbrev cX5_bestTimes : ByteArray := prog_1_method_19_code
def yX5_bestTimes : MethodName := ⟨RX5, "bestTimes", "(III)I"⟩
abbrev cX5_put : ByteArray := prog_1_method_20_code
def yX5_put : MethodName := ⟨RX5, "put", "(J)I"⟩
abbrev cX5_wipe : ByteArray := prog_1_method_21_code
def yX5_wipe : MethodName := ⟨RX5, "wipe", "()I"⟩
abbrev cX5_fault : ByteArray := prog_1_method_22_code
def yX5_fault : MethodName := ⟨RX5, "fault", "()I"⟩
abbrev cX5_undo : ByteArray := prog_1_method_23_code
def yX5_undo : MethodName := ⟨RX5, "undo", "()I"⟩
abbrev cX5_save : ByteArray := prog_1_method_24_code
def yX5_save : MethodName := ⟨RX5, "save", "(I)I"⟩
abbrev cX5_restore : ByteArray := prog_1_method_25_code
def yX5_restore : MethodName := ⟨RX5, "restore", "(I)I"⟩
abbrev cX5_beginChange : ByteArray := prog_1_method_26_code
def yX5_beginChange : MethodName := ⟨RX5, "beginChange", "()V"⟩
abbrev cX5_isMatrix : ByteArray := prog_1_method_27_code
def yX5_isMatrix : MethodName := ⟨RX5, "isMatrix", "(I)Z"⟩
abbrev cX5_isSlot : ByteArray := prog_1_method_28_code
def yX5_isSlot : MethodName := ⟨RX5, "isSlot", "(I)Z"⟩
abbrev cX5_isPlace : ByteArray := prog_1_method_29_code
def yX5_isPlace : MethodName := ⟨RX5, "isPlace", "(III)Z"⟩
abbrev cX5_isWithin : ByteArray := prog_1_method_30_code
def yX5_isWithin : MethodName := ⟨RX5, "isWithin", "(II)Z"⟩
abbrev cX5_isSquareEdge : ByteArray := prog_1_method_31_code
def yX5_isSquareEdge : MethodName := ⟨RX5, "isSquareEdge", "(II)Z"⟩
abbrev cX5_sizeAt : ByteArray := prog_1_method_32_code
def yX5_sizeAt : MethodName := ⟨RX5, "sizeAt", "(I)I"⟩
abbrev cX5_firstOf : ByteArray := prog_1_method_33_code
def yX5_firstOf : MethodName := ⟨RX5, "firstOf", "(II)I"⟩
abbrev cX5_roomOfUncut : ByteArray := prog_1_method_34_code
def yX5_roomOfUncut : MethodName := ⟨RX5, "roomOfUncut", "(II)I"⟩
abbrev cX5_bitsOfPart : ByteArray := prog_1_method_35_code
def yX5_bitsOfPart : MethodName := ⟨RX5, "bitsOfPart", "(III)J"⟩
abbrev cX5_highestBit : ByteArray := prog_1_method_36_code
def yX5_highestBit : MethodName := ⟨RX5, "highestBit", "(J)I"⟩
abbrev cX5_signsIn : ByteArray := prog_1_method_37_code
def yX5_signsIn : MethodName := ⟨RX5, "signsIn", "(J)I"⟩
abbrev cX5_countZeros : ByteArray := prog_1_method_38_code
def yX5_countZeros : MethodName := ⟨RX5, "countZeros", "(LBlockTrees$Matrix;LBlockTrees$Matrix;)V"⟩
def RX6 : String := "BlockTreesModel"
def TX6 : u_T := fun k => match k with
  | 0 => ("BlockTreesModel", "thrown", "I", false)
  | 1 => ("BlockTreesModel", "s", "[I", true)
  | 2 => ("BlockTreesModel", "aside", "[I", true)
  | 3 => ("BlockTreesModel", "undos", "[I", true)
  | 4 => ("BlockTreesModel", "undoMany", "I", false)
  | 5 => ("BlockTreesModel", "slots", "[I", true)
  | 6 => ("BlockTreesModel", "hasSlot", "[Z", true)
  | 7 => ("BlockTreesModel", "pad", "[I", true)
  | 8 => ("BlockTreesModel", "length", "I", false)
  | 9 => ("BlockTreesModel", "at", "I", false)
  | 10 => ("BlockTreesModel", "isWell", "Z", false)
  | 11 => ("BlockTreesModel", "read", "[I", true)
  | 12 => ("BlockTreesModel", "values", "[I", true)
  | 13 => ("BlockTreesModel", "others", "[I", true)
  | 14 => ("BlockTreesModel", "level", "I", false)
  | 15 => ("BlockTreesModel", "blockRow", "I", false)
  | 16 => ("BlockTreesModel", "blockColumn", "I", false)
  | _ => ("BlockTreesModel", "isOpen", "[Z", true)
def tyX6 : Nat → FieldType := fun k => match k with
  | 0 => .int
  | 1 => .array .int
  | 2 => .array .int
  | 3 => .array .int
  | 4 => .int
  | 5 => .array .int
  | 6 => .array .boolean
  | 7 => .array .int
  | 8 => .int
  | 9 => .int
  | 10 => .boolean
  | 11 => .array .int
  | 12 => .array .int
  | 13 => .array .int
  | 14 => .int
  | 15 => .int
  | 16 => .int
  | _ => .array .boolean
theorem nmX6 : ∀ a, a < 18 → ∀ b, b < 18 → a ≠ b → (TX6 a).2.1 ≠ (TX6 b).2.1 := by decide +kernel
theorem tyX6_ok : ∀ k, k < 18 → parseFieldDescriptor (TX6 k).2.2.1 = some (tyX6 k) := by decide +kernel
abbrev cX6_init : ByteArray := prog_8_method_1_code
def yX6_init : MethodName := ⟨RX6, "<init>", "()V"⟩
abbrev cX6_in : ByteArray := prog_8_method_3_code
def yX6_in : MethodName := ⟨RX6, "in", "(III)Z"⟩
abbrev cX6_isMatrix : ByteArray := prog_8_method_4_code
def yX6_isMatrix : MethodName := ⟨RX6, "isMatrix", "(I)Z"⟩
abbrev cX6_isPlace : ByteArray := prog_8_method_5_code
def yX6_isPlace : MethodName := ⟨RX6, "isPlace", "(II)Z"⟩
abbrev cX6_sizeAt : ByteArray := prog_8_method_6_code
def yX6_sizeAt : MethodName := ⟨RX6, "sizeAt", "(I)I"⟩
abbrev cX6_node : ByteArray := prog_8_method_7_code
def yX6_node : MethodName := ⟨RX6, "node", "(III)I"⟩
abbrev cX6_sort : ByteArray := prog_8_method_8_code
def yX6_sort : MethodName := ⟨RX6, "sort", "(IIII)I"⟩
abbrev cX6_sorts : ByteArray := prog_8_method_9_code
def yX6_sorts : MethodName := ⟨RX6, "sorts", "(IIIII)V"⟩
abbrev cX6_get : ByteArray := prog_8_method_10_code
def yX6_get : MethodName := ⟨RX6, "get", "(III)I"⟩
abbrev cX6_lay : ByteArray := prog_8_method_11_code
def yX6_lay : MethodName := ⟨RX6, "lay", "(IIII)V"⟩
abbrev cX6_records : ByteArray := prog_8_method_12_code
def yX6_records : MethodName := ⟨RX6, "records", "()V"⟩
abbrev cX6_counts : ByteArray := prog_8_method_13_code
def yX6_counts : MethodName := ⟨RX6, "counts", "()V"⟩
abbrev cX6_putAside : ByteArray := prog_8_method_14_code
def yX6_putAside : MethodName := ⟨RX6, "putAside", "()V"⟩
abbrev cX6_takeBack : ByteArray := prog_8_method_15_code
def yX6_takeBack : MethodName := ⟨RX6, "takeBack", "()V"⟩
abbrev cX6_isThere : ByteArray := prog_8_method_16_code
def yX6_isThere : MethodName := ⟨RX6, "isThere", "(IIII)Z"⟩
abbrev cX6_roomOf : ByteArray := prog_8_method_17_code
def yX6_roomOf : MethodName := ⟨RX6, "roomOf", "(II)I"⟩
abbrev cX6_roomFrom : ByteArray := prog_8_method_18_code
def yX6_roomFrom : MethodName := ⟨RX6, "roomFrom", "(IIII)I"⟩
abbrev cX6_room : ByteArray := prog_8_method_19_code
def yX6_room : MethodName := ⟨RX6, "room", "(I)I"⟩
abbrev cX6_depthAt : ByteArray := prog_8_method_20_code
def yX6_depthAt : MethodName := ⟨RX6, "depthAt", "(III)I"⟩
abbrev cX6_allRoom : ByteArray := prog_8_method_21_code
def yX6_allRoom : MethodName := ⟨RX6, "allRoom", "()I"⟩
abbrev cX6_trace : ByteArray := prog_8_method_22_code
def yX6_trace : MethodName := ⟨RX6, "trace", "(I)I"⟩
abbrev cX6_firstRow : ByteArray := prog_8_method_23_code
def yX6_firstRow : MethodName := ⟨RX6, "firstRow", "(IIII)I"⟩
abbrev cX6_firstColumn : ByteArray := prog_8_method_24_code
def yX6_firstColumn : MethodName := ⟨RX6, "firstColumn", "(IIII)I"⟩
abbrev cX6_oneness : ByteArray := prog_8_method_25_code
def yX6_oneness : MethodName := ⟨RX6, "oneness", "(IIII)I"⟩
abbrev cX6_areEmpty : ByteArray := prog_8_method_26_code
def yX6_areEmpty : MethodName := ⟨RX6, "areEmpty", "(IIII)Z"⟩
abbrev cX6_shrinksBlock : ByteArray := prog_8_method_27_code
def yX6_shrinksBlock : MethodName := ⟨RX6, "shrinksBlock", "(IIII)V"⟩
abbrev cX6_shrinks : ByteArray := prog_8_method_28_code
def yX6_shrinks : MethodName := ⟨RX6, "shrinks", "(I)V"⟩
abbrev cX6_tell : ByteArray := prog_8_method_29_code
def yX6_tell : MethodName := ⟨RX6, "tell", "(I)I"⟩
abbrev cX6_cuts : ByteArray := prog_8_method_30_code
def yX6_cuts : MethodName := ⟨RX6, "cuts", "(IIII)V"⟩
abbrev cX6_entry : ByteArray := prog_8_method_31_code
def yX6_entry : MethodName := ⟨RX6, "entry", "(IIII)I"⟩
abbrev cX6_shrink : ByteArray := prog_8_method_32_code
def yX6_shrink : MethodName := ⟨RX6, "shrink", "(I)I"⟩
abbrev cX6_bounded : ByteArray := prog_8_method_33_code
def yX6_bounded : MethodName := ⟨RX6, "bounded", "(I)I"⟩
abbrev cX6_addsSquare : ByteArray := prog_8_method_34_code
def yX6_addsSquare : MethodName := ⟨RX6, "addsSquare", "(IIIIII)V"⟩
abbrev cX6_addsBlock : ByteArray := prog_8_method_35_code
def yX6_addsBlock : MethodName := ⟨RX6, "addsBlock", "(IIIIII)V"⟩
abbrev cX6_add : ByteArray := prog_8_method_36_code
def yX6_add : MethodName := ⟨RX6, "add", "(III)I"⟩
abbrev cX6_swaps : ByteArray := prog_8_method_37_code
def yX6_swaps : MethodName := ⟨RX6, "swaps", "(III)V"⟩
abbrev cX6_turn : ByteArray := prog_8_method_38_code
def yX6_turn : MethodName := ⟨RX6, "turn", "(I)I"⟩
abbrev cX6_copy : ByteArray := prog_8_method_39_code
def yX6_copy : MethodName := ⟨RX6, "copy", "(II)I"⟩
abbrev cX6_clear : ByteArray := prog_8_method_40_code
def yX6_clear : MethodName := ⟨RX6, "clear", "(III)I"⟩
abbrev cX6_at : ByteArray := prog_8_method_41_code
def yX6_at : MethodName := ⟨RX6, "at", "(III)I"⟩
abbrev cX6_block : ByteArray := prog_8_method_42_code
def yX6_block : MethodName := ⟨RX6, "block", "(IIII)I"⟩
abbrev cX6_overBlocks : ByteArray := prog_8_method_43_code
def yX6_overBlocks : MethodName := ⟨RX6, "overBlocks", "(II)I"⟩
abbrev cX6_overEntries : ByteArray := prog_8_method_44_code
def yX6_overEntries : MethodName := ⟨RX6, "overEntries", "(II)I"⟩
abbrev cX6_of : ByteArray := prog_8_method_45_code
def yX6_of : MethodName := ⟨RX6, "of", "(II)I"⟩
abbrev cX6_product : ByteArray := prog_8_method_46_code
def yX6_product : MethodName := ⟨RX6, "product", "(IIII)J"⟩
abbrev cX6_mean : ByteArray := prog_8_method_47_code
def yX6_mean : MethodName := ⟨RX6, "mean", "(I)J"⟩
abbrev cX6_share : ByteArray := prog_8_method_48_code
def yX6_share : MethodName := ⟨RX6, "share", "(I)I"⟩
abbrev cX6_emptyOnes : ByteArray := prog_8_method_49_code
def yX6_emptyOnes : MethodName := ⟨RX6, "emptyOnes", "()I"⟩
abbrev cX6_count : ByteArray := prog_8_method_50_code
def yX6_count : MethodName := ⟨RX6, "count", "(I)I"⟩
abbrev cX6_far : ByteArray := prog_8_method_51_code
def yX6_far : MethodName := ⟨RX6, "far", "(II)I"⟩
abbrev cX6_wouldTake : ByteArray := prog_8_method_52_code
def yX6_wouldTake : MethodName := ⟨RX6, "wouldTake", "(I)I"⟩
abbrev cX6_isOne : ByteArray := prog_8_method_53_code
def yX6_isOne : MethodName := ⟨RX6, "isOne", "(IIII)I"⟩
abbrev cX6_zerosBy : ByteArray := prog_8_method_54_code
def yX6_zerosBy : MethodName := ⟨RX6, "zerosBy", "(III)I"⟩
abbrev cX6_bestTimes : ByteArray := prog_8_method_55_code
def yX6_bestTimes : MethodName := ⟨RX6, "bestTimes", "(III)I"⟩
abbrev cX6_put : ByteArray := prog_8_method_56_code
def yX6_put : MethodName := ⟨RX6, "put", "(J)I"⟩
abbrev cX6_wipe : ByteArray := prog_8_method_57_code
def yX6_wipe : MethodName := ⟨RX6, "wipe", "()I"⟩
abbrev cX6_letter : ByteArray := prog_8_method_58_code
def yX6_letter : MethodName := ⟨RX6, "letter", "()I"⟩
abbrev cX6_wants : ByteArray := prog_8_method_59_code
def yX6_wants : MethodName := ⟨RX6, "wants", "(I)V"⟩
abbrev cX6_number : ByteArray := prog_8_method_60_code
def yX6_number : MethodName := ⟨RX6, "number", "()I"⟩
abbrev cX6_value : ByteArray := prog_8_method_61_code
def yX6_value : MethodName := ⟨RX6, "value", "()I"⟩
abbrev cX6_readsValues : ByteArray := prog_8_method_62_code
def yX6_readsValues : MethodName := ⟨RX6, "readsValues", "(I)V"⟩
abbrev cX6_laysRead : ByteArray := prog_8_method_63_code
def yX6_laysRead : MethodName := ⟨RX6, "laysRead", "(I)V"⟩
abbrev cX6_keepsValues : ByteArray := prog_8_method_64_code
def yX6_keepsValues : MethodName := ⟨RX6, "keepsValues", "(IZ)V"⟩
abbrev cX6_readsBlock : ByteArray := prog_8_method_65_code
def yX6_readsBlock : MethodName := ⟨RX6, "readsBlock", "()V"⟩
abbrev cX6_goesDown : ByteArray := prog_8_method_66_code
def yX6_goesDown : MethodName := ⟨RX6, "goesDown", "()V"⟩
abbrev cX6_goesOn : ByteArray := prog_8_method_67_code
def yX6_goesOn : MethodName := ⟨RX6, "goesOn", "()Z"⟩
abbrev cX6_reads : ByteArray := prog_8_method_68_code
def yX6_reads : MethodName := ⟨RX6, "reads", "()I"⟩
abbrev cX6_fault : ByteArray := prog_8_method_69_code
def yX6_fault : MethodName := ⟨RX6, "fault", "()I"⟩
abbrev cX6_undo : ByteArray := prog_8_method_70_code
def yX6_undo : MethodName := ⟨RX6, "undo", "()I"⟩
abbrev cX6_save : ByteArray := prog_8_method_71_code
def yX6_save : MethodName := ⟨RX6, "save", "(I)I"⟩
abbrev cX6_restore : ByteArray := prog_8_method_72_code
def yX6_restore : MethodName := ⟨RX6, "restore", "(I)I"⟩
def RJxe99ae : String := "java/lang/Double"
def TJxe99ae : u_T := fun k => match k with
  | _ => ("", "", "", false)
def tyJxe99ae : Nat → FieldType := fun k => match k with
  | _ => .int
theorem nmJxe99ae : ∀ a, a < 0 → ∀ b, b < 0 → a ≠ b → (TJxe99ae a).2.1 ≠ (TJxe99ae b).2.1 := by decide +kernel
theorem tyJxe99ae_ok : ∀ k, k < 0 → parseFieldDescriptor (TJxe99ae k).2.2.1 = some (tyJxe99ae k) := by decide +kernel
abbrev cJxe99ae_isNaN_b9ae7 : ByteArray := prog_9_method_6_code
def yJxe99ae_isNaN_b9ae7 : MethodName := ⟨RJxe99ae, "isNaN", "(D)Z"⟩
abbrev cJxe99ae_doubleToLongBits_ccdee : ByteArray := prog_9_method_23_code
def yJxe99ae_doubleToLongBits_ccdee : MethodName := ⟨RJxe99ae, "doubleToLongBits", "(D)J"⟩
def RJxf58ca : String := "java/lang/Float"
def TJxf58ca : u_T := fun k => match k with
  | _ => ("", "", "", false)
def tyJxf58ca : Nat → FieldType := fun k => match k with
  | _ => .int
theorem nmJxf58ca : ∀ a, a < 0 → ∀ b, b < 0 → a ≠ b → (TJxf58ca a).2.1 ≠ (TJxf58ca b).2.1 := by decide +kernel
theorem tyJxf58ca_ok : ∀ k, k < 0 → parseFieldDescriptor (TJxf58ca k).2.2.1 = some (tyJxf58ca k) := by decide +kernel
abbrev cJxf58ca_isNaN_12338 : ByteArray := prog_10_method_6_code
def yJxf58ca_isNaN_12338 : MethodName := ⟨RJxf58ca, "isNaN", "(F)Z"⟩
abbrev cJxf58ca_floatToIntBits_5c35a : ByteArray := prog_10_method_24_code
def yJxf58ca_floatToIntBits_5c35a : MethodName := ⟨RJxf58ca, "floatToIntBits", "(F)I"⟩
def RJ9 : String := "java/lang/Math"
def TJ9 : u_T := fun k => match k with
  | _ => ("", "", "", false)
def tyJ9 : Nat → FieldType := fun k => match k with
  | _ => .int
theorem nmJ9 : ∀ a, a < 0 → ∀ b, b < 0 → a ≠ b → (TJ9 a).2.1 ≠ (TJ9 b).2.1 := by decide +kernel
theorem tyJ9_ok : ∀ k, k < 0 → parseFieldDescriptor (TJ9 k).2.2.1 = some (tyJ9 k) := by decide +kernel
abbrev cJ9_abs_0f7a4 : ByteArray := prog_11_method_59_code
def yJ9_abs_0f7a4 : MethodName := ⟨RJ9, "abs", "(I)I"⟩
abbrev cJ9_abs_067f4 : ByteArray := prog_11_method_61_code
def yJ9_abs_067f4 : MethodName := ⟨RJ9, "abs", "(J)J"⟩
abbrev cJ9_max_7cf53 : ByteArray := prog_11_method_65_code
def yJ9_max_7cf53 : MethodName := ⟨RJ9, "max", "(II)I"⟩
abbrev cJ9_min_7cf53 : ByteArray := prog_11_method_69_code
def yJ9_min_7cf53 : MethodName := ⟨RJ9, "min", "(II)I"⟩
def RJ10 : String := "java/lang/System"
def TJ10 : u_T := fun k => match k with
  | _ => ("", "", "", false)
def tyJ10 : Nat → FieldType := fun k => match k with
  | _ => .int
theorem nmJ10 : ∀ a, a < 0 → ∀ b, b < 0 → a ≠ b → (TJ10 a).2.1 ≠ (TJ10 b).2.1 := by decide +kernel
theorem tyJ10_ok : ∀ k, k < 0 → parseFieldDescriptor (TJ10 k).2.2.1 = some (tyJ10 k) := by decide +kernel
def RL : String := "BlockTreesLaw"
abbrev cL_law : ByteArray := code
def yL_law : MethodName := ⟨RL, "law", "([I)Z"⟩
abbrev vwCl : List vw_C := [(RX0, TX0, 3), (RX1, TX1, 2), (RX2, TX2, 8), (RX3, TX3, 2), (RX4, TX4, 2), (RX5, TX5, 6), (RX6, TX6, 18)]
end
section
theorem dX0_init_0 : decode cX0_init 0 = .ok (.aload_n 0, 1) := by decide +kernel
theorem dX0_init_1 : decode cX0_init 1 = .ok (.invokespecial 3, 3) := by decide +kernel
theorem dX0_init_4 : decode cX0_init 4 = .ok (.aload_n 0, 1) := by decide +kernel
theorem dX0_init_5 : decode cX0_init 5 = .ok (.bipush 6, 2) := by decide +kernel
theorem dX0_init_7 : decode cX0_init 7 = .ok (.anewarray 9, 3) := by decide +kernel
theorem dX0_init_10 : decode cX0_init 10 = .ok (.putfield 11, 3) := by decide +kernel
theorem dX0_init_13 : decode cX0_init 13 = .ok (.aload_n 0, 1) := by decide +kernel
theorem dX0_init_14 : decode cX0_init 14 = .ok (.iconst 0, 1) := by decide +kernel
theorem dX0_init_15 : decode cX0_init 15 = .ok (.putfield 17, 3) := by decide +kernel
theorem dX0_init_18 : decode cX0_init 18 = .ok (.aload_n 0, 1) := by decide +kernel
theorem dX0_init_19 : decode cX0_init 19 = .ok (.iconst 0, 1) := by decide +kernel
theorem dX0_init_20 : decode cX0_init 20 = .ok (.putfield 21, 3) := by decide +kernel
theorem dX0_init_23 : decode cX0_init 23 = .ok (.iconst 0, 1) := by decide +kernel
theorem dX0_init_24 : decode cX0_init 24 = .ok (.istore_n 1, 1) := by decide +kernel
theorem dX0_init_25 : decode cX0_init 25 = .ok (.iload_n 1, 1) := by decide +kernel
theorem dX0_init_26 : decode cX0_init 26 = .ok (.bipush 6, 2) := by decide +kernel
theorem dX0_init_28 : decode cX0_init 28 = .ok (.if_icmp .ge 22, 3) := by decide +kernel
theorem dX0_init_31 : decode cX0_init 31 = .ok (.aload_n 0, 1) := by decide +kernel
theorem dX0_init_32 : decode cX0_init 32 = .ok (.getfield 11, 3) := by decide +kernel
theorem dX0_init_35 : decode cX0_init 35 = .ok (.iload_n 1, 1) := by decide +kernel
theorem dX0_init_36 : decode cX0_init 36 = .ok (.new 9, 3) := by decide +kernel
theorem dX0_init_39 : decode cX0_init 39 = .ok (.dup, 1) := by decide +kernel
theorem dX0_init_40 : decode cX0_init 40 = .ok (.invokespecial 24, 3) := by decide +kernel
theorem dX0_init_43 : decode cX0_init 43 = .ok (.aastore, 1) := by decide +kernel
theorem dX0_init_44 : decode cX0_init 44 = .ok (.iinc 1 1, 3) := by decide +kernel
theorem dX0_init_47 : decode cX0_init 47 = .ok (.goto (-22), 3) := by decide +kernel
theorem dX0_init_50 : decode cX0_init 50 = .ok (.return_, 1) := by decide +kernel
theorem dX0_keep_0 : decode cX0_keep 0 = .ok (.aload_n 0, 1) := by decide +kernel
theorem dX0_keep_1 : decode cX0_keep 1 = .ok (.getfield 11, 3) := by decide +kernel
theorem dX0_keep_4 : decode cX0_keep 4 = .ok (.aload_n 0, 1) := by decide +kernel
theorem dX0_keep_5 : decode cX0_keep 5 = .ok (.getfield 17, 3) := by decide +kernel
theorem dX0_keep_8 : decode cX0_keep 8 = .ok (.aload_n 0, 1) := by decide +kernel
theorem dX0_keep_9 : decode cX0_keep 9 = .ok (.getfield 21, 3) := by decide +kernel
theorem dX0_keep_12 : decode cX0_keep 12 = .ok (.iadd, 1) := by decide +kernel
theorem dX0_keep_13 : decode cX0_keep 13 = .ok (.bipush 6, 2) := by decide +kernel
theorem dX0_keep_15 : decode cX0_keep 15 = .ok (.irem, 1) := by decide +kernel
theorem dX0_keep_16 : decode cX0_keep 16 = .ok (.aaload, 1) := by decide +kernel
theorem dX0_keep_17 : decode cX0_keep 17 = .ok (.aload_n 1, 1) := by decide +kernel
theorem dX0_keep_18 : decode cX0_keep 18 = .ok (.invokevirtual 25, 3) := by decide +kernel
theorem dX0_keep_21 : decode cX0_keep 21 = .ok (.aload_n 0, 1) := by decide +kernel
theorem dX0_keep_22 : decode cX0_keep 22 = .ok (.getfield 21, 3) := by decide +kernel
theorem dX0_keep_25 : decode cX0_keep 25 = .ok (.bipush 6, 2) := by decide +kernel
theorem dX0_keep_27 : decode cX0_keep 27 = .ok (.if_icmp .ge 16, 3) := by decide +kernel
theorem dX0_keep_30 : decode cX0_keep 30 = .ok (.aload_n 0, 1) := by decide +kernel
theorem dX0_keep_31 : decode cX0_keep 31 = .ok (.dup, 1) := by decide +kernel
theorem dX0_keep_32 : decode cX0_keep 32 = .ok (.getfield 21, 3) := by decide +kernel
theorem dX0_keep_35 : decode cX0_keep 35 = .ok (.iconst 1, 1) := by decide +kernel
theorem dX0_keep_36 : decode cX0_keep 36 = .ok (.iadd, 1) := by decide +kernel
theorem dX0_keep_37 : decode cX0_keep 37 = .ok (.putfield 21, 3) := by decide +kernel
theorem dX0_keep_40 : decode cX0_keep 40 = .ok (.goto 16, 3) := by decide +kernel
theorem dX0_keep_43 : decode cX0_keep 43 = .ok (.aload_n 0, 1) := by decide +kernel
theorem dX0_keep_44 : decode cX0_keep 44 = .ok (.aload_n 0, 1) := by decide +kernel
theorem dX0_keep_45 : decode cX0_keep 45 = .ok (.getfield 17, 3) := by decide +kernel
theorem dX0_keep_48 : decode cX0_keep 48 = .ok (.iconst 1, 1) := by decide +kernel
theorem dX0_keep_49 : decode cX0_keep 49 = .ok (.iadd, 1) := by decide +kernel
theorem dX0_keep_50 : decode cX0_keep 50 = .ok (.bipush 6, 2) := by decide +kernel
theorem dX0_keep_52 : decode cX0_keep 52 = .ok (.irem, 1) := by decide +kernel
theorem dX0_keep_53 : decode cX0_keep 53 = .ok (.putfield 17, 3) := by decide +kernel
theorem dX0_keep_56 : decode cX0_keep 56 = .ok (.return_, 1) := by decide +kernel
theorem dX0_takeBack_0 : decode cX0_takeBack 0 = .ok (.aload_n 0, 1) := by decide +kernel
theorem dX0_takeBack_1 : decode cX0_takeBack 1 = .ok (.getfield 21, 3) := by decide +kernel
theorem dX0_takeBack_4 : decode cX0_takeBack 4 = .ok (.ifCond .le 34, 3) := by decide +kernel
theorem dX0_takeBack_7 : decode cX0_takeBack 7 = .ok (.aload_n 0, 1) := by decide +kernel
theorem dX0_takeBack_8 : decode cX0_takeBack 8 = .ok (.dup, 1) := by decide +kernel
theorem dX0_takeBack_9 : decode cX0_takeBack 9 = .ok (.getfield 21, 3) := by decide +kernel
theorem dX0_takeBack_12 : decode cX0_takeBack 12 = .ok (.iconst 1, 1) := by decide +kernel
theorem dX0_takeBack_13 : decode cX0_takeBack 13 = .ok (.isub, 1) := by decide +kernel
theorem dX0_takeBack_14 : decode cX0_takeBack 14 = .ok (.putfield 21, 3) := by decide +kernel
theorem dX0_takeBack_17 : decode cX0_takeBack 17 = .ok (.aload_n 1, 1) := by decide +kernel
theorem dX0_takeBack_18 : decode cX0_takeBack 18 = .ok (.aload_n 0, 1) := by decide +kernel
theorem dX0_takeBack_19 : decode cX0_takeBack 19 = .ok (.getfield 11, 3) := by decide +kernel
theorem dX0_takeBack_22 : decode cX0_takeBack 22 = .ok (.aload_n 0, 1) := by decide +kernel
theorem dX0_takeBack_23 : decode cX0_takeBack 23 = .ok (.getfield 17, 3) := by decide +kernel
theorem dX0_takeBack_26 : decode cX0_takeBack 26 = .ok (.aload_n 0, 1) := by decide +kernel
theorem dX0_takeBack_27 : decode cX0_takeBack 27 = .ok (.getfield 21, 3) := by decide +kernel
theorem dX0_takeBack_30 : decode cX0_takeBack 30 = .ok (.iadd, 1) := by decide +kernel
theorem dX0_takeBack_31 : decode cX0_takeBack 31 = .ok (.bipush 6, 2) := by decide +kernel
theorem dX0_takeBack_33 : decode cX0_takeBack 33 = .ok (.irem, 1) := by decide +kernel
theorem dX0_takeBack_34 : decode cX0_takeBack 34 = .ok (.aaload, 1) := by decide +kernel
theorem dX0_takeBack_35 : decode cX0_takeBack 35 = .ok (.invokevirtual 25, 3) := by decide +kernel
theorem dX0_takeBack_38 : decode cX0_takeBack 38 = .ok (.return_, 1) := by decide +kernel
theorem dX1_init_0 : decode cX1_init 0 = .ok (.aload_n 0, 1) := by decide +kernel
theorem dX1_init_1 : decode cX1_init 1 = .ok (.invokespecial 3, 3) := by decide +kernel
theorem dX1_init_4 : decode cX1_init 4 = .ok (.aload_n 0, 1) := by decide +kernel
theorem dX1_init_5 : decode cX1_init 5 = .ok (.sipush 256, 3) := by decide +kernel
theorem dX1_init_8 : decode cX1_init 8 = .ok (.newarray .int, 2) := by decide +kernel
theorem dX1_init_10 : decode cX1_init 10 = .ok (.putfield 9, 3) := by decide +kernel
theorem dX1_init_13 : decode cX1_init 13 = .ok (.aload_n 0, 1) := by decide +kernel
theorem dX1_init_14 : decode cX1_init 14 = .ok (.bipush 85, 2) := by decide +kernel
theorem dX1_init_16 : decode cX1_init 16 = .ok (.newarray .int, 2) := by decide +kernel
theorem dX1_init_18 : decode cX1_init 18 = .ok (.putfield 15, 3) := by decide +kernel
theorem dX1_init_21 : decode cX1_init 21 = .ok (.return_, 1) := by decide +kernel
theorem dX1_become_0 : decode cX1_become 0 = .ok (.aload_n 1, 1) := by decide +kernel
theorem dX1_become_1 : decode cX1_become 1 = .ok (.getfield 9, 3) := by decide +kernel
theorem dX1_become_4 : decode cX1_become 4 = .ok (.iconst 0, 1) := by decide +kernel
theorem dX1_become_5 : decode cX1_become 5 = .ok (.aload_n 0, 1) := by decide +kernel
theorem dX1_become_6 : decode cX1_become 6 = .ok (.getfield 9, 3) := by decide +kernel
theorem dX1_become_9 : decode cX1_become 9 = .ok (.iconst 0, 1) := by decide +kernel
theorem dX1_become_10 : decode cX1_become 10 = .ok (.sipush 256, 3) := by decide +kernel
theorem dX1_become_13 : decode cX1_become 13 = .ok (.invokestatic 18, 3) := by decide +kernel
theorem dX1_become_16 : decode cX1_become 16 = .ok (.aload_n 1, 1) := by decide +kernel
theorem dX1_become_17 : decode cX1_become 17 = .ok (.getfield 15, 3) := by decide +kernel
theorem dX1_become_20 : decode cX1_become 20 = .ok (.iconst 0, 1) := by decide +kernel
theorem dX1_become_21 : decode cX1_become 21 = .ok (.aload_n 0, 1) := by decide +kernel
theorem dX1_become_22 : decode cX1_become 22 = .ok (.getfield 15, 3) := by decide +kernel
theorem dX1_become_25 : decode cX1_become 25 = .ok (.iconst 0, 1) := by decide +kernel
theorem dX1_become_26 : decode cX1_become 26 = .ok (.bipush 85, 2) := by decide +kernel
theorem dX1_become_28 : decode cX1_become 28 = .ok (.invokestatic 18, 3) := by decide +kernel
theorem dX1_become_31 : decode cX1_become 31 = .ok (.return_, 1) := by decide +kernel
theorem dX1_cellOf_0 : decode cX1_cellOf 0 = .ok (.iload_n 0, 1) := by decide +kernel
theorem dX1_cellOf_1 : decode cX1_cellOf 1 = .ok (.bipush 16, 2) := by decide +kernel
theorem dX1_cellOf_3 : decode cX1_cellOf 3 = .ok (.imul, 1) := by decide +kernel
theorem dX1_cellOf_4 : decode cX1_cellOf 4 = .ok (.iload_n 1, 1) := by decide +kernel
theorem dX1_cellOf_5 : decode cX1_cellOf 5 = .ok (.iadd, 1) := by decide +kernel
theorem dX1_cellOf_6 : decode cX1_cellOf 6 = .ok (.ireturn, 1) := by decide +kernel
theorem dX1_numberOf_0 : decode cX1_numberOf 0 = .ok (.iconst 4, 1) := by decide +kernel
theorem dX1_numberOf_1 : decode cX1_numberOf 1 = .ok (.iload_n 0, 1) := by decide +kernel
theorem dX1_numberOf_2 : decode cX1_numberOf 2 = .ok (.isub, 1) := by decide +kernel
theorem dX1_numberOf_3 : decode cX1_numberOf 3 = .ok (.istore_n 3, 1) := by decide +kernel
theorem dX1_numberOf_4 : decode cX1_numberOf 4 = .ok (.iconst 1, 1) := by decide +kernel
theorem dX1_numberOf_5 : decode cX1_numberOf 5 = .ok (.iconst 2, 1) := by decide +kernel
theorem dX1_numberOf_6 : decode cX1_numberOf 6 = .ok (.iload_n 0, 1) := by decide +kernel
theorem dX1_numberOf_7 : decode cX1_numberOf 7 = .ok (.imul, 1) := by decide +kernel
theorem dX1_numberOf_8 : decode cX1_numberOf 8 = .ok (.ishl, 1) := by decide +kernel
theorem dX1_numberOf_9 : decode cX1_numberOf 9 = .ok (.iconst 1, 1) := by decide +kernel
theorem dX1_numberOf_10 : decode cX1_numberOf 10 = .ok (.isub, 1) := by decide +kernel
theorem dX1_numberOf_11 : decode cX1_numberOf 11 = .ok (.iconst 3, 1) := by decide +kernel
theorem dX1_numberOf_12 : decode cX1_numberOf 12 = .ok (.idiv, 1) := by decide +kernel
theorem dX1_numberOf_13 : decode cX1_numberOf 13 = .ok (.istore 4, 2) := by decide +kernel
theorem dX1_numberOf_15 : decode cX1_numberOf 15 = .ok (.iload 4, 2) := by decide +kernel
theorem dX1_numberOf_17 : decode cX1_numberOf 17 = .ok (.iload_n 1, 1) := by decide +kernel
theorem dX1_numberOf_18 : decode cX1_numberOf 18 = .ok (.iload_n 3, 1) := by decide +kernel
theorem dX1_numberOf_19 : decode cX1_numberOf 19 = .ok (.ishr, 1) := by decide +kernel
theorem dX1_numberOf_20 : decode cX1_numberOf 20 = .ok (.iload_n 0, 1) := by decide +kernel
theorem dX1_numberOf_21 : decode cX1_numberOf 21 = .ok (.ishl, 1) := by decide +kernel
theorem dX1_numberOf_22 : decode cX1_numberOf 22 = .ok (.iadd, 1) := by decide +kernel
theorem dX1_numberOf_23 : decode cX1_numberOf 23 = .ok (.iload_n 2, 1) := by decide +kernel
theorem dX1_numberOf_24 : decode cX1_numberOf 24 = .ok (.iload_n 3, 1) := by decide +kernel
theorem dX1_numberOf_25 : decode cX1_numberOf 25 = .ok (.ishr, 1) := by decide +kernel
theorem dX1_numberOf_26 : decode cX1_numberOf 26 = .ok (.iadd, 1) := by decide +kernel
theorem dX1_numberOf_27 : decode cX1_numberOf 27 = .ok (.ireturn, 1) := by decide +kernel
theorem dX1_rowOfPart_0 : decode cX1_rowOfPart 0 = .ok (.iload_n 1, 1) := by decide +kernel
theorem dX1_rowOfPart_1 : decode cX1_rowOfPart 1 = .ok (.iload_n 2, 1) := by decide +kernel
theorem dX1_rowOfPart_2 : decode cX1_rowOfPart 2 = .ok (.iconst 2, 1) := by decide +kernel
theorem dX1_rowOfPart_3 : decode cX1_rowOfPart 3 = .ok (.idiv, 1) := by decide +kernel
theorem dX1_rowOfPart_4 : decode cX1_rowOfPart 4 = .ok (.iload_n 0, 1) := by decide +kernel
theorem dX1_rowOfPart_5 : decode cX1_rowOfPart 5 = .ok (.iconst 1, 1) := by decide +kernel
theorem dX1_rowOfPart_6 : decode cX1_rowOfPart 6 = .ok (.iadd, 1) := by decide +kernel
theorem dX1_rowOfPart_7 : decode cX1_rowOfPart 7 = .ok (.invokestatic 24, 3) := by decide +kernel
theorem dX1_rowOfPart_10 : decode cX1_rowOfPart 10 = .ok (.imul, 1) := by decide +kernel
theorem dX1_rowOfPart_11 : decode cX1_rowOfPart 11 = .ok (.iadd, 1) := by decide +kernel
theorem dX1_rowOfPart_12 : decode cX1_rowOfPart 12 = .ok (.ireturn, 1) := by decide +kernel
theorem dX1_columnOfPart_0 : decode cX1_columnOfPart 0 = .ok (.iload_n 1, 1) := by decide +kernel
theorem dX1_columnOfPart_1 : decode cX1_columnOfPart 1 = .ok (.iload_n 2, 1) := by decide +kernel
theorem dX1_columnOfPart_2 : decode cX1_columnOfPart 2 = .ok (.iconst 2, 1) := by decide +kernel
theorem dX1_columnOfPart_3 : decode cX1_columnOfPart 3 = .ok (.irem, 1) := by decide +kernel
theorem dX1_columnOfPart_4 : decode cX1_columnOfPart 4 = .ok (.iload_n 0, 1) := by decide +kernel
theorem dX1_columnOfPart_5 : decode cX1_columnOfPart 5 = .ok (.iconst 1, 1) := by decide +kernel
theorem dX1_columnOfPart_6 : decode cX1_columnOfPart 6 = .ok (.iadd, 1) := by decide +kernel
theorem dX1_columnOfPart_7 : decode cX1_columnOfPart 7 = .ok (.invokestatic 24, 3) := by decide +kernel
theorem dX1_columnOfPart_10 : decode cX1_columnOfPart 10 = .ok (.imul, 1) := by decide +kernel
theorem dX1_columnOfPart_11 : decode cX1_columnOfPart 11 = .ok (.iadd, 1) := by decide +kernel
theorem dX1_columnOfPart_12 : decode cX1_columnOfPart 12 = .ok (.ireturn, 1) := by decide +kernel
theorem dX1_entryAt_0 : decode cX1_entryAt 0 = .ok (.aload_n 0, 1) := by decide +kernel
theorem dX1_entryAt_1 : decode cX1_entryAt 1 = .ok (.getfield 9, 3) := by decide +kernel
theorem dX1_entryAt_4 : decode cX1_entryAt 4 = .ok (.iload_n 1, 1) := by decide +kernel
theorem dX1_entryAt_5 : decode cX1_entryAt 5 = .ok (.iload_n 2, 1) := by decide +kernel
theorem dX1_entryAt_6 : decode cX1_entryAt 6 = .ok (.invokestatic 28, 3) := by decide +kernel
theorem dX1_entryAt_9 : decode cX1_entryAt 9 = .ok (.iaload, 1) := by decide +kernel
theorem dX1_entryAt_10 : decode cX1_entryAt 10 = .ok (.ireturn, 1) := by decide +kernel
theorem dX1_sortOf_0 : decode cX1_sortOf 0 = .ok (.aload_n 0, 1) := by decide +kernel
theorem dX1_sortOf_1 : decode cX1_sortOf 1 = .ok (.getfield 15, 3) := by decide +kernel
theorem dX1_sortOf_4 : decode cX1_sortOf 4 = .ok (.iload_n 1, 1) := by decide +kernel
theorem dX1_sortOf_5 : decode cX1_sortOf 5 = .ok (.iload_n 2, 1) := by decide +kernel
theorem dX1_sortOf_6 : decode cX1_sortOf 6 = .ok (.iload_n 3, 1) := by decide +kernel
theorem dX1_sortOf_7 : decode cX1_sortOf 7 = .ok (.invokestatic 32, 3) := by decide +kernel
theorem dX1_sortOf_10 : decode cX1_sortOf 10 = .ok (.iaload, 1) := by decide +kernel
theorem dX1_sortOf_11 : decode cX1_sortOf 11 = .ok (.ireturn, 1) := by decide +kernel
theorem dX1_setSort_0 : decode cX1_setSort 0 = .ok (.aload_n 0, 1) := by decide +kernel
theorem dX1_setSort_1 : decode cX1_setSort 1 = .ok (.getfield 15, 3) := by decide +kernel
theorem dX1_setSort_4 : decode cX1_setSort 4 = .ok (.iload_n 1, 1) := by decide +kernel
theorem dX1_setSort_5 : decode cX1_setSort 5 = .ok (.iload_n 2, 1) := by decide +kernel
theorem dX1_setSort_6 : decode cX1_setSort 6 = .ok (.iload_n 3, 1) := by decide +kernel
theorem dX1_setSort_7 : decode cX1_setSort 7 = .ok (.invokestatic 32, 3) := by decide +kernel
theorem dX1_setSort_10 : decode cX1_setSort 10 = .ok (.iload 4, 2) := by decide +kernel
theorem dX1_setSort_12 : decode cX1_setSort 12 = .ok (.iastore, 1) := by decide +kernel
theorem dX1_setSort_13 : decode cX1_setSort 13 = .ok (.return_, 1) := by decide +kernel
theorem dX1_isCut_0 : decode cX1_isCut 0 = .ok (.iload_n 1, 1) := by decide +kernel
theorem dX1_isCut_1 : decode cX1_isCut 1 = .ok (.iconst 3, 1) := by decide +kernel
theorem dX1_isCut_2 : decode cX1_isCut 2 = .ok (.if_icmp .ge 18, 3) := by decide +kernel
theorem dX1_isCut_5 : decode cX1_isCut 5 = .ok (.aload_n 0, 1) := by decide +kernel
theorem dX1_isCut_6 : decode cX1_isCut 6 = .ok (.iload_n 1, 1) := by decide +kernel
theorem dX1_isCut_7 : decode cX1_isCut 7 = .ok (.iload_n 2, 1) := by decide +kernel
theorem dX1_isCut_8 : decode cX1_isCut 8 = .ok (.iload_n 3, 1) := by decide +kernel
theorem dX1_isCut_9 : decode cX1_isCut 9 = .ok (.invokevirtual 36, 3) := by decide +kernel
theorem dX1_isCut_12 : decode cX1_isCut 12 = .ok (.iconst 3, 1) := by decide +kernel
theorem dX1_isCut_13 : decode cX1_isCut 13 = .ok (.if_icmp .ne 7, 3) := by decide +kernel
theorem dX1_isCut_16 : decode cX1_isCut 16 = .ok (.iconst 1, 1) := by decide +kernel
theorem dX1_isCut_17 : decode cX1_isCut 17 = .ok (.goto 4, 3) := by decide +kernel
theorem dX1_isCut_20 : decode cX1_isCut 20 = .ok (.iconst 0, 1) := by decide +kernel
theorem dX1_isCut_21 : decode cX1_isCut 21 = .ok (.ireturn, 1) := by decide +kernel
theorem dX1_depthOf_0 : decode cX1_depthOf 0 = .ok (.iconst 0, 1) := by decide +kernel
theorem dX1_depthOf_1 : decode cX1_depthOf 1 = .ok (.istore_n 3, 1) := by decide +kernel
theorem dX1_depthOf_2 : decode cX1_depthOf 2 = .ok (.iload_n 3, 1) := by decide +kernel
theorem dX1_depthOf_3 : decode cX1_depthOf 3 = .ok (.iconst 3, 1) := by decide +kernel
theorem dX1_depthOf_4 : decode cX1_depthOf 4 = .ok (.if_icmp .ge 19, 3) := by decide +kernel
theorem dX1_depthOf_7 : decode cX1_depthOf 7 = .ok (.aload_n 0, 1) := by decide +kernel
theorem dX1_depthOf_8 : decode cX1_depthOf 8 = .ok (.iload_n 3, 1) := by decide +kernel
theorem dX1_depthOf_9 : decode cX1_depthOf 9 = .ok (.iload_n 1, 1) := by decide +kernel
theorem dX1_depthOf_10 : decode cX1_depthOf 10 = .ok (.iload_n 2, 1) := by decide +kernel
theorem dX1_depthOf_11 : decode cX1_depthOf 11 = .ok (.invokevirtual 39, 3) := by decide +kernel
theorem dX1_depthOf_14 : decode cX1_depthOf 14 = .ok (.ifCond .eq 9, 3) := by decide +kernel
theorem dX1_depthOf_17 : decode cX1_depthOf 17 = .ok (.iinc 3 1, 3) := by decide +kernel
theorem dX1_depthOf_20 : decode cX1_depthOf 20 = .ok (.goto (-18), 3) := by decide +kernel
theorem dX1_depthOf_23 : decode cX1_depthOf 23 = .ok (.iload_n 3, 1) := by decide +kernel
theorem dX1_depthOf_24 : decode cX1_depthOf 24 = .ok (.ireturn, 1) := by decide +kernel
theorem dX1_deepest_0 : decode cX1_deepest 0 = .ok (.iconst 0, 1) := by decide +kernel
theorem dX1_deepest_1 : decode cX1_deepest 1 = .ok (.istore_n 1, 1) := by decide +kernel
theorem dX1_deepest_2 : decode cX1_deepest 2 = .ok (.iconst 0, 1) := by decide +kernel
theorem dX1_deepest_3 : decode cX1_deepest 3 = .ok (.istore_n 2, 1) := by decide +kernel
theorem dX1_deepest_4 : decode cX1_deepest 4 = .ok (.iload_n 2, 1) := by decide +kernel
theorem dX1_deepest_5 : decode cX1_deepest 5 = .ok (.sipush 256, 3) := by decide +kernel
theorem dX1_deepest_8 : decode cX1_deepest 8 = .ok (.if_icmp .ge 26, 3) := by decide +kernel
theorem dX1_deepest_11 : decode cX1_deepest 11 = .ok (.iload_n 1, 1) := by decide +kernel
theorem dX1_deepest_12 : decode cX1_deepest 12 = .ok (.aload_n 0, 1) := by decide +kernel
theorem dX1_deepest_13 : decode cX1_deepest 13 = .ok (.iload_n 2, 1) := by decide +kernel
theorem dX1_deepest_14 : decode cX1_deepest 14 = .ok (.bipush 16, 2) := by decide +kernel
theorem dX1_deepest_16 : decode cX1_deepest 16 = .ok (.idiv, 1) := by decide +kernel
theorem dX1_deepest_17 : decode cX1_deepest 17 = .ok (.iload_n 2, 1) := by decide +kernel
theorem dX1_deepest_18 : decode cX1_deepest 18 = .ok (.bipush 16, 2) := by decide +kernel
theorem dX1_deepest_20 : decode cX1_deepest 20 = .ok (.irem, 1) := by decide +kernel
theorem dX1_deepest_21 : decode cX1_deepest 21 = .ok (.invokevirtual 43, 3) := by decide +kernel
theorem dX1_deepest_24 : decode cX1_deepest 24 = .ok (.invokestatic 46, 3) := by decide +kernel
theorem dX1_deepest_27 : decode cX1_deepest 27 = .ok (.istore_n 1, 1) := by decide +kernel
theorem dX1_deepest_28 : decode cX1_deepest 28 = .ok (.iinc 2 1, 3) := by decide +kernel
theorem dX1_deepest_31 : decode cX1_deepest 31 = .ok (.goto (-27), 3) := by decide +kernel
theorem dX1_deepest_34 : decode cX1_deepest 34 = .ok (.iload_n 1, 1) := by decide +kernel
theorem dX1_deepest_35 : decode cX1_deepest 35 = .ok (.ireturn, 1) := by decide +kernel
theorem dX1_room_0 : decode cX1_room 0 = .ok (.aload_n 0, 1) := by decide +kernel
theorem dX1_room_1 : decode cX1_room 1 = .ok (.iconst 0, 1) := by decide +kernel
theorem dX1_room_2 : decode cX1_room 2 = .ok (.iconst 0, 1) := by decide +kernel
theorem dX1_room_3 : decode cX1_room 3 = .ok (.iconst 0, 1) := by decide +kernel
theorem dX1_room_4 : decode cX1_room 4 = .ok (.invokevirtual 51, 3) := by decide +kernel
theorem dX1_room_7 : decode cX1_room 7 = .ok (.ireturn, 1) := by decide +kernel
theorem dX1_roomFrom_0 : decode cX1_roomFrom 0 = .ok (.aload_n 0, 1) := by decide +kernel
theorem dX1_roomFrom_1 : decode cX1_roomFrom 1 = .ok (.iload_n 1, 1) := by decide +kernel
theorem dX1_roomFrom_2 : decode cX1_roomFrom 2 = .ok (.iload_n 2, 1) := by decide +kernel
theorem dX1_roomFrom_3 : decode cX1_roomFrom 3 = .ok (.iload_n 3, 1) := by decide +kernel
theorem dX1_roomFrom_4 : decode cX1_roomFrom 4 = .ok (.invokevirtual 39, 3) := by decide +kernel
theorem dX1_roomFrom_7 : decode cX1_roomFrom 7 = .ok (.ifCond .ne 18, 3) := by decide +kernel
theorem dX1_roomFrom_10 : decode cX1_roomFrom 10 = .ok (.aload_n 0, 1) := by decide +kernel
theorem dX1_roomFrom_11 : decode cX1_roomFrom 11 = .ok (.iload_n 1, 1) := by decide +kernel
theorem dX1_roomFrom_12 : decode cX1_roomFrom 12 = .ok (.iload_n 2, 1) := by decide +kernel
theorem dX1_roomFrom_13 : decode cX1_roomFrom 13 = .ok (.iload_n 3, 1) := by decide +kernel
theorem dX1_roomFrom_14 : decode cX1_roomFrom 14 = .ok (.invokevirtual 36, 3) := by decide +kernel
theorem dX1_roomFrom_17 : decode cX1_roomFrom 17 = .ok (.iload_n 1, 1) := by decide +kernel
theorem dX1_roomFrom_18 : decode cX1_roomFrom 18 = .ok (.invokestatic 24, 3) := by decide +kernel
theorem dX1_roomFrom_21 : decode cX1_roomFrom 21 = .ok (.invokestatic 54, 3) := by decide +kernel
theorem dX1_roomFrom_24 : decode cX1_roomFrom 24 = .ok (.ireturn, 1) := by decide +kernel
theorem dX1_roomFrom_25 : decode cX1_roomFrom 25 = .ok (.iconst 1, 1) := by decide +kernel
theorem dX1_roomFrom_26 : decode cX1_roomFrom 26 = .ok (.istore 4, 2) := by decide +kernel
theorem dX1_roomFrom_28 : decode cX1_roomFrom 28 = .ok (.iconst 0, 1) := by decide +kernel
theorem dX1_roomFrom_29 : decode cX1_roomFrom 29 = .ok (.istore 5, 2) := by decide +kernel
theorem dX1_roomFrom_31 : decode cX1_roomFrom 31 = .ok (.iload 5, 2) := by decide +kernel
theorem dX1_roomFrom_33 : decode cX1_roomFrom 33 = .ok (.iconst 4, 1) := by decide +kernel
theorem dX1_roomFrom_34 : decode cX1_roomFrom 34 = .ok (.if_icmp .ge 35, 3) := by decide +kernel
theorem dX1_roomFrom_37 : decode cX1_roomFrom 37 = .ok (.iload 4, 2) := by decide +kernel
theorem dX1_roomFrom_39 : decode cX1_roomFrom 39 = .ok (.aload_n 0, 1) := by decide +kernel
theorem dX1_roomFrom_40 : decode cX1_roomFrom 40 = .ok (.iload_n 1, 1) := by decide +kernel
theorem dX1_roomFrom_41 : decode cX1_roomFrom 41 = .ok (.iconst 1, 1) := by decide +kernel
theorem dX1_roomFrom_42 : decode cX1_roomFrom 42 = .ok (.iadd, 1) := by decide +kernel
theorem dX1_roomFrom_43 : decode cX1_roomFrom 43 = .ok (.iload_n 1, 1) := by decide +kernel
theorem dX1_roomFrom_44 : decode cX1_roomFrom 44 = .ok (.iload_n 2, 1) := by decide +kernel
theorem dX1_roomFrom_45 : decode cX1_roomFrom 45 = .ok (.iload 5, 2) := by decide +kernel
theorem dX1_roomFrom_47 : decode cX1_roomFrom 47 = .ok (.invokestatic 57, 3) := by decide +kernel
theorem dX1_roomFrom_50 : decode cX1_roomFrom 50 = .ok (.iload_n 1, 1) := by decide +kernel
theorem dX1_roomFrom_51 : decode cX1_roomFrom 51 = .ok (.iload_n 3, 1) := by decide +kernel
theorem dX1_roomFrom_52 : decode cX1_roomFrom 52 = .ok (.iload 5, 2) := by decide +kernel
theorem dX1_roomFrom_54 : decode cX1_roomFrom 54 = .ok (.invokestatic 60, 3) := by decide +kernel
theorem dX1_roomFrom_57 : decode cX1_roomFrom 57 = .ok (.invokevirtual 51, 3) := by decide +kernel
theorem dX1_roomFrom_60 : decode cX1_roomFrom 60 = .ok (.iadd, 1) := by decide +kernel
theorem dX1_roomFrom_61 : decode cX1_roomFrom 61 = .ok (.istore 4, 2) := by decide +kernel
theorem dX1_roomFrom_63 : decode cX1_roomFrom 63 = .ok (.iinc 5 1, 3) := by decide +kernel
theorem dX1_roomFrom_66 : decode cX1_roomFrom 66 = .ok (.goto (-35), 3) := by decide +kernel
theorem dX1_roomFrom_69 : decode cX1_roomFrom 69 = .ok (.iload 4, 2) := by decide +kernel
theorem dX1_roomFrom_71 : decode cX1_roomFrom 71 = .ok (.ireturn, 1) := by decide +kernel
theorem dX1_blocksOf_0 : decode cX1_blocksOf 0 = .ok (.aload_n 0, 1) := by decide +kernel
theorem dX1_blocksOf_1 : decode cX1_blocksOf 1 = .ok (.iload_n 1, 1) := by decide +kernel
theorem dX1_blocksOf_2 : decode cX1_blocksOf 2 = .ok (.iconst 0, 1) := by decide +kernel
theorem dX1_blocksOf_3 : decode cX1_blocksOf 3 = .ok (.iconst 0, 1) := by decide +kernel
theorem dX1_blocksOf_4 : decode cX1_blocksOf 4 = .ok (.iconst 0, 1) := by decide +kernel
theorem dX1_blocksOf_5 : decode cX1_blocksOf 5 = .ok (.invokevirtual 63, 3) := by decide +kernel
theorem dX1_blocksOf_8 : decode cX1_blocksOf 8 = .ok (.ireturn, 1) := by decide +kernel
theorem dX1_blocksFrom_0 : decode cX1_blocksFrom 0 = .ok (.aload_n 0, 1) := by decide +kernel
theorem dX1_blocksFrom_1 : decode cX1_blocksFrom 1 = .ok (.iload_n 2, 1) := by decide +kernel
theorem dX1_blocksFrom_2 : decode cX1_blocksFrom 2 = .ok (.iload_n 3, 1) := by decide +kernel
theorem dX1_blocksFrom_3 : decode cX1_blocksFrom 3 = .ok (.iload 4, 2) := by decide +kernel
theorem dX1_blocksFrom_5 : decode cX1_blocksFrom 5 = .ok (.invokevirtual 36, 3) := by decide +kernel
theorem dX1_blocksFrom_8 : decode cX1_blocksFrom 8 = .ok (.iload_n 1, 1) := by decide +kernel
theorem dX1_blocksFrom_9 : decode cX1_blocksFrom 9 = .ok (.if_icmp .ne 7, 3) := by decide +kernel
theorem dX1_blocksFrom_12 : decode cX1_blocksFrom 12 = .ok (.iconst 1, 1) := by decide +kernel
theorem dX1_blocksFrom_13 : decode cX1_blocksFrom 13 = .ok (.goto 4, 3) := by decide +kernel
theorem dX1_blocksFrom_16 : decode cX1_blocksFrom 16 = .ok (.iconst 0, 1) := by decide +kernel
theorem dX1_blocksFrom_17 : decode cX1_blocksFrom 17 = .ok (.istore 5, 2) := by decide +kernel
theorem dX1_blocksFrom_19 : decode cX1_blocksFrom 19 = .ok (.aload_n 0, 1) := by decide +kernel
theorem dX1_blocksFrom_20 : decode cX1_blocksFrom 20 = .ok (.iload_n 2, 1) := by decide +kernel
theorem dX1_blocksFrom_21 : decode cX1_blocksFrom 21 = .ok (.iload_n 3, 1) := by decide +kernel
theorem dX1_blocksFrom_22 : decode cX1_blocksFrom 22 = .ok (.iload 4, 2) := by decide +kernel
theorem dX1_blocksFrom_24 : decode cX1_blocksFrom 24 = .ok (.invokevirtual 39, 3) := by decide +kernel
theorem dX1_blocksFrom_27 : decode cX1_blocksFrom 27 = .ok (.ifCond .ne 6, 3) := by decide +kernel
theorem dX1_blocksFrom_30 : decode cX1_blocksFrom 30 = .ok (.iload 5, 2) := by decide +kernel
theorem dX1_blocksFrom_32 : decode cX1_blocksFrom 32 = .ok (.ireturn, 1) := by decide +kernel
theorem dX1_blocksFrom_33 : decode cX1_blocksFrom 33 = .ok (.iconst 0, 1) := by decide +kernel
theorem dX1_blocksFrom_34 : decode cX1_blocksFrom 34 = .ok (.istore 6, 2) := by decide +kernel
theorem dX1_blocksFrom_36 : decode cX1_blocksFrom 36 = .ok (.iload 6, 2) := by decide +kernel
theorem dX1_blocksFrom_38 : decode cX1_blocksFrom 38 = .ok (.iconst 4, 1) := by decide +kernel
theorem dX1_blocksFrom_39 : decode cX1_blocksFrom 39 = .ok (.if_icmp .ge 37, 3) := by decide +kernel
theorem dX1_blocksFrom_42 : decode cX1_blocksFrom 42 = .ok (.iload 5, 2) := by decide +kernel
theorem dX1_blocksFrom_44 : decode cX1_blocksFrom 44 = .ok (.aload_n 0, 1) := by decide +kernel
theorem dX1_blocksFrom_45 : decode cX1_blocksFrom 45 = .ok (.iload_n 1, 1) := by decide +kernel
theorem dX1_blocksFrom_46 : decode cX1_blocksFrom 46 = .ok (.iload_n 2, 1) := by decide +kernel
theorem dX1_blocksFrom_47 : decode cX1_blocksFrom 47 = .ok (.iconst 1, 1) := by decide +kernel
theorem dX1_blocksFrom_48 : decode cX1_blocksFrom 48 = .ok (.iadd, 1) := by decide +kernel
theorem dX1_blocksFrom_49 : decode cX1_blocksFrom 49 = .ok (.iload_n 2, 1) := by decide +kernel
theorem dX1_blocksFrom_50 : decode cX1_blocksFrom 50 = .ok (.iload_n 3, 1) := by decide +kernel
theorem dX1_blocksFrom_51 : decode cX1_blocksFrom 51 = .ok (.iload 6, 2) := by decide +kernel
theorem dX1_blocksFrom_53 : decode cX1_blocksFrom 53 = .ok (.invokestatic 57, 3) := by decide +kernel
theorem dX1_blocksFrom_56 : decode cX1_blocksFrom 56 = .ok (.iload_n 2, 1) := by decide +kernel
theorem dX1_blocksFrom_57 : decode cX1_blocksFrom 57 = .ok (.iload 4, 2) := by decide +kernel
theorem dX1_blocksFrom_59 : decode cX1_blocksFrom 59 = .ok (.iload 6, 2) := by decide +kernel
theorem dX1_blocksFrom_61 : decode cX1_blocksFrom 61 = .ok (.invokestatic 60, 3) := by decide +kernel
theorem dX1_blocksFrom_64 : decode cX1_blocksFrom 64 = .ok (.invokevirtual 63, 3) := by decide +kernel
theorem dX1_blocksFrom_67 : decode cX1_blocksFrom 67 = .ok (.iadd, 1) := by decide +kernel
theorem dX1_blocksFrom_68 : decode cX1_blocksFrom 68 = .ok (.istore 5, 2) := by decide +kernel
theorem dX1_blocksFrom_70 : decode cX1_blocksFrom 70 = .ok (.iinc 6 1, 3) := by decide +kernel
theorem dX1_blocksFrom_73 : decode cX1_blocksFrom 73 = .ok (.goto (-37), 3) := by decide +kernel
theorem dX1_blocksFrom_76 : decode cX1_blocksFrom 76 = .ok (.iload 5, 2) := by decide +kernel
theorem dX1_blocksFrom_78 : decode cX1_blocksFrom 78 = .ok (.ireturn, 1) := by decide +kernel
theorem dX1_changeEntry_0 : decode cX1_changeEntry 0 = .ok (.iconst 0, 1) := by decide +kernel
theorem dX1_changeEntry_1 : decode cX1_changeEntry 1 = .ok (.istore 4, 2) := by decide +kernel
theorem dX1_changeEntry_3 : decode cX1_changeEntry 3 = .ok (.iload 4, 2) := by decide +kernel
theorem dX1_changeEntry_5 : decode cX1_changeEntry 5 = .ok (.iconst 3, 1) := by decide +kernel
theorem dX1_changeEntry_6 : decode cX1_changeEntry 6 = .ok (.if_icmp .ge 28, 3) := by decide +kernel
theorem dX1_changeEntry_9 : decode cX1_changeEntry 9 = .ok (.aload_n 0, 1) := by decide +kernel
theorem dX1_changeEntry_10 : decode cX1_changeEntry 10 = .ok (.iload 4, 2) := by decide +kernel
theorem dX1_changeEntry_12 : decode cX1_changeEntry 12 = .ok (.iload_n 1, 1) := by decide +kernel
theorem dX1_changeEntry_13 : decode cX1_changeEntry 13 = .ok (.iload_n 2, 1) := by decide +kernel
theorem dX1_changeEntry_14 : decode cX1_changeEntry 14 = .ok (.invokevirtual 39, 3) := by decide +kernel
theorem dX1_changeEntry_17 : decode cX1_changeEntry 17 = .ok (.ifCond .ne 11, 3) := by decide +kernel
theorem dX1_changeEntry_20 : decode cX1_changeEntry 20 = .ok (.aload_n 0, 1) := by decide +kernel
theorem dX1_changeEntry_21 : decode cX1_changeEntry 21 = .ok (.iload 4, 2) := by decide +kernel
theorem dX1_changeEntry_23 : decode cX1_changeEntry 23 = .ok (.iload_n 1, 1) := by decide +kernel
theorem dX1_changeEntry_24 : decode cX1_changeEntry 24 = .ok (.iload_n 2, 1) := by decide +kernel
theorem dX1_changeEntry_25 : decode cX1_changeEntry 25 = .ok (.invokevirtual 67, 3) := by decide +kernel
theorem dX1_changeEntry_28 : decode cX1_changeEntry 28 = .ok (.iinc 4 1, 3) := by decide +kernel
theorem dX1_changeEntry_31 : decode cX1_changeEntry 31 = .ok (.goto (-28), 3) := by decide +kernel
theorem dX1_changeEntry_34 : decode cX1_changeEntry 34 = .ok (.aload_n 0, 1) := by decide +kernel
theorem dX1_changeEntry_35 : decode cX1_changeEntry 35 = .ok (.iconst 3, 1) := by decide +kernel
theorem dX1_changeEntry_36 : decode cX1_changeEntry 36 = .ok (.iload_n 1, 1) := by decide +kernel
theorem dX1_changeEntry_37 : decode cX1_changeEntry 37 = .ok (.iload_n 2, 1) := by decide +kernel
theorem dX1_changeEntry_38 : decode cX1_changeEntry 38 = .ok (.iconst 1, 1) := by decide +kernel
theorem dX1_changeEntry_39 : decode cX1_changeEntry 39 = .ok (.invokevirtual 71, 3) := by decide +kernel
theorem dX1_changeEntry_42 : decode cX1_changeEntry 42 = .ok (.aload_n 0, 1) := by decide +kernel
theorem dX1_changeEntry_43 : decode cX1_changeEntry 43 = .ok (.getfield 9, 3) := by decide +kernel
theorem dX1_changeEntry_46 : decode cX1_changeEntry 46 = .ok (.iload_n 1, 1) := by decide +kernel
theorem dX1_changeEntry_47 : decode cX1_changeEntry 47 = .ok (.iload_n 2, 1) := by decide +kernel
theorem dX1_changeEntry_48 : decode cX1_changeEntry 48 = .ok (.invokestatic 28, 3) := by decide +kernel
theorem dX1_changeEntry_51 : decode cX1_changeEntry 51 = .ok (.iload_n 3, 1) := by decide +kernel
theorem dX1_changeEntry_52 : decode cX1_changeEntry 52 = .ok (.iastore, 1) := by decide +kernel
theorem dX1_changeEntry_53 : decode cX1_changeEntry 53 = .ok (.return_, 1) := by decide +kernel
theorem dX1_cutBlock_0 : decode cX1_cutBlock 0 = .ok (.iload_n 1, 1) := by decide +kernel
theorem dX1_cutBlock_1 : decode cX1_cutBlock 1 = .ok (.iload_n 2, 1) := by decide +kernel
theorem dX1_cutBlock_2 : decode cX1_cutBlock 2 = .ok (.invokestatic 75, 3) := by decide +kernel
theorem dX1_cutBlock_5 : decode cX1_cutBlock 5 = .ok (.istore 4, 2) := by decide +kernel
theorem dX1_cutBlock_7 : decode cX1_cutBlock 7 = .ok (.iload_n 1, 1) := by decide +kernel
theorem dX1_cutBlock_8 : decode cX1_cutBlock 8 = .ok (.iload_n 3, 1) := by decide +kernel
theorem dX1_cutBlock_9 : decode cX1_cutBlock 9 = .ok (.invokestatic 75, 3) := by decide +kernel
theorem dX1_cutBlock_12 : decode cX1_cutBlock 12 = .ok (.istore 5, 2) := by decide +kernel
theorem dX1_cutBlock_14 : decode cX1_cutBlock 14 = .ok (.aload_n 0, 1) := by decide +kernel
theorem dX1_cutBlock_15 : decode cX1_cutBlock 15 = .ok (.iload_n 1, 1) := by decide +kernel
theorem dX1_cutBlock_16 : decode cX1_cutBlock 16 = .ok (.iload_n 2, 1) := by decide +kernel
theorem dX1_cutBlock_17 : decode cX1_cutBlock 17 = .ok (.iload_n 3, 1) := by decide +kernel
theorem dX1_cutBlock_18 : decode cX1_cutBlock 18 = .ok (.invokevirtual 36, 3) := by decide +kernel
theorem dX1_cutBlock_21 : decode cX1_cutBlock 21 = .ok (.istore 6, 2) := by decide +kernel
theorem dX1_cutBlock_23 : decode cX1_cutBlock 23 = .ok (.iconst 0, 1) := by decide +kernel
theorem dX1_cutBlock_24 : decode cX1_cutBlock 24 = .ok (.istore 7, 2) := by decide +kernel
theorem dX1_cutBlock_26 : decode cX1_cutBlock 26 = .ok (.iload 7, 2) := by decide +kernel
theorem dX1_cutBlock_28 : decode cX1_cutBlock 28 = .ok (.iconst 4, 1) := by decide +kernel
theorem dX1_cutBlock_29 : decode cX1_cutBlock 29 = .ok (.if_icmp .ge 34, 3) := by decide +kernel
theorem dX1_cutBlock_32 : decode cX1_cutBlock 32 = .ok (.aload_n 0, 1) := by decide +kernel
theorem dX1_cutBlock_33 : decode cX1_cutBlock 33 = .ok (.iload_n 1, 1) := by decide +kernel
theorem dX1_cutBlock_34 : decode cX1_cutBlock 34 = .ok (.iconst 1, 1) := by decide +kernel
theorem dX1_cutBlock_35 : decode cX1_cutBlock 35 = .ok (.iadd, 1) := by decide +kernel
theorem dX1_cutBlock_36 : decode cX1_cutBlock 36 = .ok (.iload_n 1, 1) := by decide +kernel
theorem dX1_cutBlock_37 : decode cX1_cutBlock 37 = .ok (.iload 4, 2) := by decide +kernel
theorem dX1_cutBlock_39 : decode cX1_cutBlock 39 = .ok (.iload 7, 2) := by decide +kernel
theorem dX1_cutBlock_41 : decode cX1_cutBlock 41 = .ok (.invokestatic 57, 3) := by decide +kernel
theorem dX1_cutBlock_44 : decode cX1_cutBlock 44 = .ok (.iload_n 1, 1) := by decide +kernel
theorem dX1_cutBlock_45 : decode cX1_cutBlock 45 = .ok (.iload 5, 2) := by decide +kernel
theorem dX1_cutBlock_47 : decode cX1_cutBlock 47 = .ok (.iload 7, 2) := by decide +kernel
theorem dX1_cutBlock_49 : decode cX1_cutBlock 49 = .ok (.invokestatic 60, 3) := by decide +kernel
theorem dX1_cutBlock_52 : decode cX1_cutBlock 52 = .ok (.iload 6, 2) := by decide +kernel
theorem dX1_cutBlock_54 : decode cX1_cutBlock 54 = .ok (.invokevirtual 71, 3) := by decide +kernel
theorem dX1_cutBlock_57 : decode cX1_cutBlock 57 = .ok (.iinc 7 1, 3) := by decide +kernel
theorem dX1_cutBlock_60 : decode cX1_cutBlock 60 = .ok (.goto (-34), 3) := by decide +kernel
theorem dX1_cutBlock_63 : decode cX1_cutBlock 63 = .ok (.aload_n 0, 1) := by decide +kernel
theorem dX1_cutBlock_64 : decode cX1_cutBlock 64 = .ok (.iload_n 1, 1) := by decide +kernel
theorem dX1_cutBlock_65 : decode cX1_cutBlock 65 = .ok (.iload_n 2, 1) := by decide +kernel
theorem dX1_cutBlock_66 : decode cX1_cutBlock 66 = .ok (.iload_n 3, 1) := by decide +kernel
theorem dX1_cutBlock_67 : decode cX1_cutBlock 67 = .ok (.iconst 3, 1) := by decide +kernel
theorem dX1_cutBlock_68 : decode cX1_cutBlock 68 = .ok (.invokevirtual 71, 3) := by decide +kernel
theorem dX1_cutBlock_71 : decode cX1_cutBlock 71 = .ok (.return_, 1) := by decide +kernel
theorem dX1_emptyBlockOf_0 : decode cX1_emptyBlockOf 0 = .ok (.aload_n 0, 1) := by decide +kernel
theorem dX1_emptyBlockOf_1 : decode cX1_emptyBlockOf 1 = .ok (.iload_n 1, 1) := by decide +kernel
theorem dX1_emptyBlockOf_2 : decode cX1_emptyBlockOf 2 = .ok (.iload_n 2, 1) := by decide +kernel
theorem dX1_emptyBlockOf_3 : decode cX1_emptyBlockOf 3 = .ok (.invokevirtual 43, 3) := by decide +kernel
theorem dX1_emptyBlockOf_6 : decode cX1_emptyBlockOf 6 = .ok (.istore_n 3, 1) := by decide +kernel
theorem dX1_emptyBlockOf_7 : decode cX1_emptyBlockOf 7 = .ok (.aload_n 0, 1) := by decide +kernel
theorem dX1_emptyBlockOf_8 : decode cX1_emptyBlockOf 8 = .ok (.iload_n 3, 1) := by decide +kernel
theorem dX1_emptyBlockOf_9 : decode cX1_emptyBlockOf 9 = .ok (.iload_n 3, 1) := by decide +kernel
theorem dX1_emptyBlockOf_10 : decode cX1_emptyBlockOf 10 = .ok (.iload_n 1, 1) := by decide +kernel
theorem dX1_emptyBlockOf_11 : decode cX1_emptyBlockOf 11 = .ok (.invokestatic 75, 3) := by decide +kernel
theorem dX1_emptyBlockOf_14 : decode cX1_emptyBlockOf 14 = .ok (.iload_n 3, 1) := by decide +kernel
theorem dX1_emptyBlockOf_15 : decode cX1_emptyBlockOf 15 = .ok (.iload_n 2, 1) := by decide +kernel
theorem dX1_emptyBlockOf_16 : decode cX1_emptyBlockOf 16 = .ok (.invokestatic 75, 3) := by decide +kernel
theorem dX1_emptyBlockOf_19 : decode cX1_emptyBlockOf 19 = .ok (.invokevirtual 78, 3) := by decide +kernel
theorem dX1_emptyBlockOf_22 : decode cX1_emptyBlockOf 22 = .ok (.iload_n 3, 1) := by decide +kernel
theorem dX1_emptyBlockOf_23 : decode cX1_emptyBlockOf 23 = .ok (.invokestatic 24, 3) := by decide +kernel
theorem dX1_emptyBlockOf_26 : decode cX1_emptyBlockOf 26 = .ok (.ireturn, 1) := by decide +kernel
theorem dX1_setEmpty_0 : decode cX1_setEmpty 0 = .ok (.aload_n 0, 1) := by decide +kernel
theorem dX1_setEmpty_1 : decode cX1_setEmpty 1 = .ok (.iload_n 1, 1) := by decide +kernel
theorem dX1_setEmpty_2 : decode cX1_setEmpty 2 = .ok (.iload_n 2, 1) := by decide +kernel
theorem dX1_setEmpty_3 : decode cX1_setEmpty 3 = .ok (.iload_n 3, 1) := by decide +kernel
theorem dX1_setEmpty_4 : decode cX1_setEmpty 4 = .ok (.iconst 0, 1) := by decide +kernel
theorem dX1_setEmpty_5 : decode cX1_setEmpty 5 = .ok (.invokevirtual 71, 3) := by decide +kernel
theorem dX1_setEmpty_8 : decode cX1_setEmpty 8 = .ok (.iload_n 1, 1) := by decide +kernel
theorem dX1_setEmpty_9 : decode cX1_setEmpty 9 = .ok (.invokestatic 24, 3) := by decide +kernel
theorem dX1_setEmpty_12 : decode cX1_setEmpty 12 = .ok (.istore 4, 2) := by decide +kernel
theorem dX1_setEmpty_14 : decode cX1_setEmpty 14 = .ok (.iconst 0, 1) := by decide +kernel
theorem dX1_setEmpty_15 : decode cX1_setEmpty 15 = .ok (.istore 5, 2) := by decide +kernel
theorem dX1_setEmpty_17 : decode cX1_setEmpty 17 = .ok (.iload 5, 2) := by decide +kernel
theorem dX1_setEmpty_19 : decode cX1_setEmpty 19 = .ok (.iload 4, 2) := by decide +kernel
theorem dX1_setEmpty_21 : decode cX1_setEmpty 21 = .ok (.if_icmp .ge 42, 3) := by decide +kernel
theorem dX1_setEmpty_24 : decode cX1_setEmpty 24 = .ok (.iconst 0, 1) := by decide +kernel
theorem dX1_setEmpty_25 : decode cX1_setEmpty 25 = .ok (.istore 6, 2) := by decide +kernel
theorem dX1_setEmpty_27 : decode cX1_setEmpty 27 = .ok (.iload 6, 2) := by decide +kernel
theorem dX1_setEmpty_29 : decode cX1_setEmpty 29 = .ok (.iload 4, 2) := by decide +kernel
theorem dX1_setEmpty_31 : decode cX1_setEmpty 31 = .ok (.if_icmp .ge 26, 3) := by decide +kernel
theorem dX1_setEmpty_34 : decode cX1_setEmpty 34 = .ok (.aload_n 0, 1) := by decide +kernel
theorem dX1_setEmpty_35 : decode cX1_setEmpty 35 = .ok (.getfield 9, 3) := by decide +kernel
theorem dX1_setEmpty_38 : decode cX1_setEmpty 38 = .ok (.iload_n 2, 1) := by decide +kernel
theorem dX1_setEmpty_39 : decode cX1_setEmpty 39 = .ok (.iload 5, 2) := by decide +kernel
theorem dX1_setEmpty_41 : decode cX1_setEmpty 41 = .ok (.iadd, 1) := by decide +kernel
theorem dX1_setEmpty_42 : decode cX1_setEmpty 42 = .ok (.iload_n 3, 1) := by decide +kernel
theorem dX1_setEmpty_43 : decode cX1_setEmpty 43 = .ok (.iload 6, 2) := by decide +kernel
theorem dX1_setEmpty_45 : decode cX1_setEmpty 45 = .ok (.iadd, 1) := by decide +kernel
theorem dX1_setEmpty_46 : decode cX1_setEmpty 46 = .ok (.invokestatic 28, 3) := by decide +kernel
theorem dX1_setEmpty_49 : decode cX1_setEmpty 49 = .ok (.iconst 0, 1) := by decide +kernel
theorem dX1_setEmpty_50 : decode cX1_setEmpty 50 = .ok (.iastore, 1) := by decide +kernel
theorem dX1_setEmpty_51 : decode cX1_setEmpty 51 = .ok (.iinc 6 1, 3) := by decide +kernel
theorem dX1_setEmpty_54 : decode cX1_setEmpty 54 = .ok (.goto (-27), 3) := by decide +kernel
theorem dX1_setEmpty_57 : decode cX1_setEmpty 57 = .ok (.iinc 5 1, 3) := by decide +kernel
theorem dX1_setEmpty_60 : decode cX1_setEmpty 60 = .ok (.goto (-43), 3) := by decide +kernel
theorem dX1_setEmpty_63 : decode cX1_setEmpty 63 = .ok (.return_, 1) := by decide +kernel
theorem dX1_setThin_0 : decode cX1_setThin 0 = .ok (.aload_n 0, 1) := by decide +kernel
theorem dX1_setThin_1 : decode cX1_setThin 1 = .ok (.iload_n 1, 1) := by decide +kernel
theorem dX1_setThin_2 : decode cX1_setThin 2 = .ok (.iload_n 2, 1) := by decide +kernel
theorem dX1_setThin_3 : decode cX1_setThin 3 = .ok (.iload_n 3, 1) := by decide +kernel
theorem dX1_setThin_4 : decode cX1_setThin 4 = .ok (.iconst 2, 1) := by decide +kernel
theorem dX1_setThin_5 : decode cX1_setThin 5 = .ok (.invokevirtual 71, 3) := by decide +kernel
theorem dX1_setThin_8 : decode cX1_setThin 8 = .ok (.iload_n 1, 1) := by decide +kernel
theorem dX1_setThin_9 : decode cX1_setThin 9 = .ok (.invokestatic 24, 3) := by decide +kernel
theorem dX1_setThin_12 : decode cX1_setThin 12 = .ok (.istore 6, 2) := by decide +kernel
theorem dX1_setThin_14 : decode cX1_setThin 14 = .ok (.iconst 0, 1) := by decide +kernel
theorem dX1_setThin_15 : decode cX1_setThin 15 = .ok (.istore 7, 2) := by decide +kernel
theorem dX1_setThin_17 : decode cX1_setThin 17 = .ok (.iload 7, 2) := by decide +kernel
theorem dX1_setThin_19 : decode cX1_setThin 19 = .ok (.iload 6, 2) := by decide +kernel
theorem dX1_setThin_21 : decode cX1_setThin 21 = .ok (.if_icmp .ge 68, 3) := by decide +kernel
theorem dX1_setThin_24 : decode cX1_setThin 24 = .ok (.iload 7, 2) := by decide +kernel
theorem dX1_setThin_26 : decode cX1_setThin 26 = .ok (.aload 4, 2) := by decide +kernel
theorem dX1_setThin_28 : decode cX1_setThin 28 = .ok (.arraylength, 1) := by decide +kernel
theorem dX1_setThin_29 : decode cX1_setThin 29 = .ok (.if_icmp .ge 60, 3) := by decide +kernel
theorem dX1_setThin_32 : decode cX1_setThin 32 = .ok (.iconst 0, 1) := by decide +kernel
theorem dX1_setThin_33 : decode cX1_setThin 33 = .ok (.istore 8, 2) := by decide +kernel
theorem dX1_setThin_35 : decode cX1_setThin 35 = .ok (.iload 8, 2) := by decide +kernel
theorem dX1_setThin_37 : decode cX1_setThin 37 = .ok (.iload 6, 2) := by decide +kernel
theorem dX1_setThin_39 : decode cX1_setThin 39 = .ok (.if_icmp .ge 44, 3) := by decide +kernel
theorem dX1_setThin_42 : decode cX1_setThin 42 = .ok (.iload 8, 2) := by decide +kernel
theorem dX1_setThin_44 : decode cX1_setThin 44 = .ok (.aload 5, 2) := by decide +kernel
theorem dX1_setThin_46 : decode cX1_setThin 46 = .ok (.arraylength, 1) := by decide +kernel
theorem dX1_setThin_47 : decode cX1_setThin 47 = .ok (.if_icmp .ge 36, 3) := by decide +kernel
theorem dX1_setThin_50 : decode cX1_setThin 50 = .ok (.aload_n 0, 1) := by decide +kernel
theorem dX1_setThin_51 : decode cX1_setThin 51 = .ok (.getfield 9, 3) := by decide +kernel
theorem dX1_setThin_54 : decode cX1_setThin 54 = .ok (.iload_n 2, 1) := by decide +kernel
theorem dX1_setThin_55 : decode cX1_setThin 55 = .ok (.iload 7, 2) := by decide +kernel
theorem dX1_setThin_57 : decode cX1_setThin 57 = .ok (.iadd, 1) := by decide +kernel
theorem dX1_setThin_58 : decode cX1_setThin 58 = .ok (.iload_n 3, 1) := by decide +kernel
theorem dX1_setThin_59 : decode cX1_setThin 59 = .ok (.iload 8, 2) := by decide +kernel
theorem dX1_setThin_61 : decode cX1_setThin 61 = .ok (.iadd, 1) := by decide +kernel
theorem dX1_setThin_62 : decode cX1_setThin 62 = .ok (.invokestatic 28, 3) := by decide +kernel
theorem dX1_setThin_65 : decode cX1_setThin 65 = .ok (.aload 4, 2) := by decide +kernel
theorem dX1_setThin_67 : decode cX1_setThin 67 = .ok (.iload 7, 2) := by decide +kernel
theorem dX1_setThin_69 : decode cX1_setThin 69 = .ok (.iaload, 1) := by decide +kernel
theorem dX1_setThin_70 : decode cX1_setThin 70 = .ok (.aload 5, 2) := by decide +kernel
theorem dX1_setThin_72 : decode cX1_setThin 72 = .ok (.iload 8, 2) := by decide +kernel
theorem dX1_setThin_74 : decode cX1_setThin 74 = .ok (.iaload, 1) := by decide +kernel
theorem dX1_setThin_75 : decode cX1_setThin 75 = .ok (.imul, 1) := by decide +kernel
theorem dX1_setThin_76 : decode cX1_setThin 76 = .ok (.iastore, 1) := by decide +kernel
theorem dX1_setThin_77 : decode cX1_setThin 77 = .ok (.iinc 8 1, 3) := by decide +kernel
theorem dX1_setThin_80 : decode cX1_setThin 80 = .ok (.goto (-45), 3) := by decide +kernel
theorem dX1_setThin_83 : decode cX1_setThin 83 = .ok (.iinc 7 1, 3) := by decide +kernel
theorem dX1_setThin_86 : decode cX1_setThin 86 = .ok (.goto (-69), 3) := by decide +kernel
theorem dX1_setThin_89 : decode cX1_setThin 89 = .ok (.return_, 1) := by decide +kernel
theorem dX1_setFull_0 : decode cX1_setFull 0 = .ok (.aload_n 0, 1) := by decide +kernel
theorem dX1_setFull_1 : decode cX1_setFull 1 = .ok (.iload_n 1, 1) := by decide +kernel
theorem dX1_setFull_2 : decode cX1_setFull 2 = .ok (.iload_n 2, 1) := by decide +kernel
theorem dX1_setFull_3 : decode cX1_setFull 3 = .ok (.iload_n 3, 1) := by decide +kernel
theorem dX1_setFull_4 : decode cX1_setFull 4 = .ok (.iconst 1, 1) := by decide +kernel
theorem dX1_setFull_5 : decode cX1_setFull 5 = .ok (.invokevirtual 71, 3) := by decide +kernel
theorem dX1_setFull_8 : decode cX1_setFull 8 = .ok (.iload_n 1, 1) := by decide +kernel
theorem dX1_setFull_9 : decode cX1_setFull 9 = .ok (.invokestatic 24, 3) := by decide +kernel
theorem dX1_setFull_12 : decode cX1_setFull 12 = .ok (.istore 5, 2) := by decide +kernel
theorem dX1_setFull_14 : decode cX1_setFull 14 = .ok (.iconst 0, 1) := by decide +kernel
theorem dX1_setFull_15 : decode cX1_setFull 15 = .ok (.istore 6, 2) := by decide +kernel
theorem dX1_setFull_17 : decode cX1_setFull 17 = .ok (.iload 6, 2) := by decide +kernel
theorem dX1_setFull_19 : decode cX1_setFull 19 = .ok (.iload 5, 2) := by decide +kernel
theorem dX1_setFull_21 : decode cX1_setFull 21 = .ok (.if_icmp .ge 66, 3) := by decide +kernel
theorem dX1_setFull_24 : decode cX1_setFull 24 = .ok (.iconst 0, 1) := by decide +kernel
theorem dX1_setFull_25 : decode cX1_setFull 25 = .ok (.istore 7, 2) := by decide +kernel
theorem dX1_setFull_27 : decode cX1_setFull 27 = .ok (.iload 7, 2) := by decide +kernel
theorem dX1_setFull_29 : decode cX1_setFull 29 = .ok (.iload 5, 2) := by decide +kernel
theorem dX1_setFull_31 : decode cX1_setFull 31 = .ok (.if_icmp .ge 50, 3) := by decide +kernel
theorem dX1_setFull_34 : decode cX1_setFull 34 = .ok (.iload 6, 2) := by decide +kernel
theorem dX1_setFull_36 : decode cX1_setFull 36 = .ok (.iload 5, 2) := by decide +kernel
theorem dX1_setFull_38 : decode cX1_setFull 38 = .ok (.imul, 1) := by decide +kernel
theorem dX1_setFull_39 : decode cX1_setFull 39 = .ok (.iload 7, 2) := by decide +kernel
theorem dX1_setFull_41 : decode cX1_setFull 41 = .ok (.iadd, 1) := by decide +kernel
theorem dX1_setFull_42 : decode cX1_setFull 42 = .ok (.aload 4, 2) := by decide +kernel
theorem dX1_setFull_44 : decode cX1_setFull 44 = .ok (.arraylength, 1) := by decide +kernel
theorem dX1_setFull_45 : decode cX1_setFull 45 = .ok (.if_icmp .ge 36, 3) := by decide +kernel
theorem dX1_setFull_48 : decode cX1_setFull 48 = .ok (.aload_n 0, 1) := by decide +kernel
theorem dX1_setFull_49 : decode cX1_setFull 49 = .ok (.getfield 9, 3) := by decide +kernel
theorem dX1_setFull_52 : decode cX1_setFull 52 = .ok (.iload_n 2, 1) := by decide +kernel
theorem dX1_setFull_53 : decode cX1_setFull 53 = .ok (.iload 6, 2) := by decide +kernel
theorem dX1_setFull_55 : decode cX1_setFull 55 = .ok (.iadd, 1) := by decide +kernel
theorem dX1_setFull_56 : decode cX1_setFull 56 = .ok (.iload_n 3, 1) := by decide +kernel
theorem dX1_setFull_57 : decode cX1_setFull 57 = .ok (.iload 7, 2) := by decide +kernel
theorem dX1_setFull_59 : decode cX1_setFull 59 = .ok (.iadd, 1) := by decide +kernel
theorem dX1_setFull_60 : decode cX1_setFull 60 = .ok (.invokestatic 28, 3) := by decide +kernel
theorem dX1_setFull_63 : decode cX1_setFull 63 = .ok (.aload 4, 2) := by decide +kernel
theorem dX1_setFull_65 : decode cX1_setFull 65 = .ok (.iload 6, 2) := by decide +kernel
theorem dX1_setFull_67 : decode cX1_setFull 67 = .ok (.iload 5, 2) := by decide +kernel
theorem dX1_setFull_69 : decode cX1_setFull 69 = .ok (.imul, 1) := by decide +kernel
theorem dX1_setFull_70 : decode cX1_setFull 70 = .ok (.iload 7, 2) := by decide +kernel
theorem dX1_setFull_72 : decode cX1_setFull 72 = .ok (.iadd, 1) := by decide +kernel
theorem dX1_setFull_73 : decode cX1_setFull 73 = .ok (.iaload, 1) := by decide +kernel
theorem dX1_setFull_74 : decode cX1_setFull 74 = .ok (.iastore, 1) := by decide +kernel
theorem dX1_setFull_75 : decode cX1_setFull 75 = .ok (.iinc 7 1, 3) := by decide +kernel
theorem dX1_setFull_78 : decode cX1_setFull 78 = .ok (.goto (-51), 3) := by decide +kernel
theorem dX1_setFull_81 : decode cX1_setFull 81 = .ok (.iinc 6 1, 3) := by decide +kernel
theorem dX1_setFull_84 : decode cX1_setFull 84 = .ok (.goto (-67), 3) := by decide +kernel
theorem dX1_setFull_87 : decode cX1_setFull 87 = .ok (.return_, 1) := by decide +kernel
theorem dX1_makeSmaller_0 : decode cX1_makeSmaller 0 = .ok (.aload_n 0, 1) := by decide +kernel
theorem dX1_makeSmaller_1 : decode cX1_makeSmaller 1 = .ok (.iconst 0, 1) := by decide +kernel
theorem dX1_makeSmaller_2 : decode cX1_makeSmaller 2 = .ok (.iconst 0, 1) := by decide +kernel
theorem dX1_makeSmaller_3 : decode cX1_makeSmaller 3 = .ok (.iconst 0, 1) := by decide +kernel
theorem dX1_makeSmaller_4 : decode cX1_makeSmaller 4 = .ok (.invokevirtual 81, 3) := by decide +kernel
theorem dX1_makeSmaller_7 : decode cX1_makeSmaller 7 = .ok (.ireturn, 1) := by decide +kernel
theorem dX1_makeSmallerFrom_0 : decode cX1_makeSmallerFrom 0 = .ok (.aload_n 0, 1) := by decide +kernel
theorem dX1_makeSmallerFrom_1 : decode cX1_makeSmallerFrom 1 = .ok (.iload_n 1, 1) := by decide +kernel
theorem dX1_makeSmallerFrom_2 : decode cX1_makeSmallerFrom 2 = .ok (.iload_n 2, 1) := by decide +kernel
theorem dX1_makeSmallerFrom_3 : decode cX1_makeSmallerFrom 3 = .ok (.iload_n 3, 1) := by decide +kernel
theorem dX1_makeSmallerFrom_4 : decode cX1_makeSmallerFrom 4 = .ok (.invokevirtual 39, 3) := by decide +kernel
theorem dX1_makeSmallerFrom_7 : decode cX1_makeSmallerFrom 7 = .ok (.ifCond .eq 13, 3) := by decide +kernel
theorem dX1_makeSmallerFrom_10 : decode cX1_makeSmallerFrom 10 = .ok (.aload_n 0, 1) := by decide +kernel
theorem dX1_makeSmallerFrom_11 : decode cX1_makeSmallerFrom 11 = .ok (.iload_n 1, 1) := by decide +kernel
theorem dX1_makeSmallerFrom_12 : decode cX1_makeSmallerFrom 12 = .ok (.iload_n 2, 1) := by decide +kernel
theorem dX1_makeSmallerFrom_13 : decode cX1_makeSmallerFrom 13 = .ok (.iload_n 3, 1) := by decide +kernel
theorem dX1_makeSmallerFrom_14 : decode cX1_makeSmallerFrom 14 = .ok (.invokevirtual 84, 3) := by decide +kernel
theorem dX1_makeSmallerFrom_17 : decode cX1_makeSmallerFrom 17 = .ok (.goto 17, 3) := by decide +kernel
theorem dX1_makeSmallerFrom_20 : decode cX1_makeSmallerFrom 20 = .ok (.aload_n 0, 1) := by decide +kernel
theorem dX1_makeSmallerFrom_21 : decode cX1_makeSmallerFrom 21 = .ok (.iload_n 1, 1) := by decide +kernel
theorem dX1_makeSmallerFrom_22 : decode cX1_makeSmallerFrom 22 = .ok (.iload_n 2, 1) := by decide +kernel
theorem dX1_makeSmallerFrom_23 : decode cX1_makeSmallerFrom 23 = .ok (.iload_n 3, 1) := by decide +kernel
theorem dX1_makeSmallerFrom_24 : decode cX1_makeSmallerFrom 24 = .ok (.invokevirtual 36, 3) := by decide +kernel
theorem dX1_makeSmallerFrom_27 : decode cX1_makeSmallerFrom 27 = .ok (.iload_n 1, 1) := by decide +kernel
theorem dX1_makeSmallerFrom_28 : decode cX1_makeSmallerFrom 28 = .ok (.invokestatic 24, 3) := by decide +kernel
theorem dX1_makeSmallerFrom_31 : decode cX1_makeSmallerFrom 31 = .ok (.invokestatic 54, 3) := by decide +kernel
theorem dX1_makeSmallerFrom_34 : decode cX1_makeSmallerFrom 34 = .ok (.istore 4, 2) := by decide +kernel
theorem dX1_makeSmallerFrom_36 : decode cX1_makeSmallerFrom 36 = .ok (.iload_n 1, 1) := by decide +kernel
theorem dX1_makeSmallerFrom_37 : decode cX1_makeSmallerFrom 37 = .ok (.invokestatic 24, 3) := by decide +kernel
theorem dX1_makeSmallerFrom_40 : decode cX1_makeSmallerFrom 40 = .ok (.istore 5, 2) := by decide +kernel
theorem dX1_makeSmallerFrom_42 : decode cX1_makeSmallerFrom 42 = .ok (.aload_n 0, 1) := by decide +kernel
theorem dX1_makeSmallerFrom_43 : decode cX1_makeSmallerFrom 43 = .ok (.iload_n 2, 1) := by decide +kernel
theorem dX1_makeSmallerFrom_44 : decode cX1_makeSmallerFrom 44 = .ok (.iload_n 3, 1) := by decide +kernel
theorem dX1_makeSmallerFrom_45 : decode cX1_makeSmallerFrom 45 = .ok (.iload 5, 2) := by decide +kernel
theorem dX1_makeSmallerFrom_47 : decode cX1_makeSmallerFrom 47 = .ok (.invokevirtual 87, 3) := by decide +kernel
theorem dX1_makeSmallerFrom_50 : decode cX1_makeSmallerFrom 50 = .ok (.istore 6, 2) := by decide +kernel
theorem dX1_makeSmallerFrom_52 : decode cX1_makeSmallerFrom 52 = .ok (.iload 6, 2) := by decide +kernel
theorem dX1_makeSmallerFrom_54 : decode cX1_makeSmallerFrom 54 = .ok (.iconst 2, 1) := by decide +kernel
theorem dX1_makeSmallerFrom_55 : decode cX1_makeSmallerFrom 55 = .ok (.if_icmp .ne 13, 3) := by decide +kernel
theorem dX1_makeSmallerFrom_58 : decode cX1_makeSmallerFrom 58 = .ok (.aload_n 0, 1) := by decide +kernel
theorem dX1_makeSmallerFrom_59 : decode cX1_makeSmallerFrom 59 = .ok (.iload_n 1, 1) := by decide +kernel
theorem dX1_makeSmallerFrom_60 : decode cX1_makeSmallerFrom 60 = .ok (.iload_n 2, 1) := by decide +kernel
theorem dX1_makeSmallerFrom_61 : decode cX1_makeSmallerFrom 61 = .ok (.iload_n 3, 1) := by decide +kernel
theorem dX1_makeSmallerFrom_62 : decode cX1_makeSmallerFrom 62 = .ok (.iconst 0, 1) := by decide +kernel
theorem dX1_makeSmallerFrom_63 : decode cX1_makeSmallerFrom 63 = .ok (.invokevirtual 71, 3) := by decide +kernel
theorem dX1_makeSmallerFrom_66 : decode cX1_makeSmallerFrom 66 = .ok (.iconst 0, 1) := by decide +kernel
theorem dX1_makeSmallerFrom_67 : decode cX1_makeSmallerFrom 67 = .ok (.ireturn, 1) := by decide +kernel
theorem dX1_makeSmallerFrom_68 : decode cX1_makeSmallerFrom 68 = .ok (.iload 6, 2) := by decide +kernel
theorem dX1_makeSmallerFrom_70 : decode cX1_makeSmallerFrom 70 = .ok (.iconst 1, 1) := by decide +kernel
theorem dX1_makeSmallerFrom_71 : decode cX1_makeSmallerFrom 71 = .ok (.if_icmp .ne 25, 3) := by decide +kernel
theorem dX1_makeSmallerFrom_74 : decode cX1_makeSmallerFrom 74 = .ok (.iconst 2, 1) := by decide +kernel
theorem dX1_makeSmallerFrom_75 : decode cX1_makeSmallerFrom 75 = .ok (.iload 5, 2) := by decide +kernel
theorem dX1_makeSmallerFrom_77 : decode cX1_makeSmallerFrom 77 = .ok (.imul, 1) := by decide +kernel
theorem dX1_makeSmallerFrom_78 : decode cX1_makeSmallerFrom 78 = .ok (.iload 4, 2) := by decide +kernel
theorem dX1_makeSmallerFrom_80 : decode cX1_makeSmallerFrom 80 = .ok (.if_icmp .gt 16, 3) := by decide +kernel
theorem dX1_makeSmallerFrom_83 : decode cX1_makeSmallerFrom 83 = .ok (.aload_n 0, 1) := by decide +kernel
theorem dX1_makeSmallerFrom_84 : decode cX1_makeSmallerFrom 84 = .ok (.iload_n 1, 1) := by decide +kernel
theorem dX1_makeSmallerFrom_85 : decode cX1_makeSmallerFrom 85 = .ok (.iload_n 2, 1) := by decide +kernel
theorem dX1_makeSmallerFrom_86 : decode cX1_makeSmallerFrom 86 = .ok (.iload_n 3, 1) := by decide +kernel
theorem dX1_makeSmallerFrom_87 : decode cX1_makeSmallerFrom 87 = .ok (.iconst 2, 1) := by decide +kernel
theorem dX1_makeSmallerFrom_88 : decode cX1_makeSmallerFrom 88 = .ok (.invokevirtual 71, 3) := by decide +kernel
theorem dX1_makeSmallerFrom_91 : decode cX1_makeSmallerFrom 91 = .ok (.iconst 2, 1) := by decide +kernel
theorem dX1_makeSmallerFrom_92 : decode cX1_makeSmallerFrom 92 = .ok (.iload 5, 2) := by decide +kernel
theorem dX1_makeSmallerFrom_94 : decode cX1_makeSmallerFrom 94 = .ok (.imul, 1) := by decide +kernel
theorem dX1_makeSmallerFrom_95 : decode cX1_makeSmallerFrom 95 = .ok (.ireturn, 1) := by decide +kernel
theorem dX1_makeSmallerFrom_96 : decode cX1_makeSmallerFrom 96 = .ok (.iload 4, 2) := by decide +kernel
theorem dX1_makeSmallerFrom_98 : decode cX1_makeSmallerFrom 98 = .ok (.ireturn, 1) := by decide +kernel
theorem dX1_makePartsSmaller_0 : decode cX1_makePartsSmaller 0 = .ok (.iconst 1, 1) := by decide +kernel
theorem dX1_makePartsSmaller_1 : decode cX1_makePartsSmaller 1 = .ok (.istore 4, 2) := by decide +kernel
theorem dX1_makePartsSmaller_3 : decode cX1_makePartsSmaller 3 = .ok (.iconst 0, 1) := by decide +kernel
theorem dX1_makePartsSmaller_4 : decode cX1_makePartsSmaller 4 = .ok (.istore 5, 2) := by decide +kernel
theorem dX1_makePartsSmaller_6 : decode cX1_makePartsSmaller 6 = .ok (.iload 5, 2) := by decide +kernel
theorem dX1_makePartsSmaller_8 : decode cX1_makePartsSmaller 8 = .ok (.iconst 4, 1) := by decide +kernel
theorem dX1_makePartsSmaller_9 : decode cX1_makePartsSmaller 9 = .ok (.if_icmp .ge 35, 3) := by decide +kernel
theorem dX1_makePartsSmaller_12 : decode cX1_makePartsSmaller 12 = .ok (.iload 4, 2) := by decide +kernel
theorem dX1_makePartsSmaller_14 : decode cX1_makePartsSmaller 14 = .ok (.aload_n 0, 1) := by decide +kernel
theorem dX1_makePartsSmaller_15 : decode cX1_makePartsSmaller 15 = .ok (.iload_n 1, 1) := by decide +kernel
theorem dX1_makePartsSmaller_16 : decode cX1_makePartsSmaller 16 = .ok (.iconst 1, 1) := by decide +kernel
theorem dX1_makePartsSmaller_17 : decode cX1_makePartsSmaller 17 = .ok (.iadd, 1) := by decide +kernel
theorem dX1_makePartsSmaller_18 : decode cX1_makePartsSmaller 18 = .ok (.iload_n 1, 1) := by decide +kernel
theorem dX1_makePartsSmaller_19 : decode cX1_makePartsSmaller 19 = .ok (.iload_n 2, 1) := by decide +kernel
theorem dX1_makePartsSmaller_20 : decode cX1_makePartsSmaller 20 = .ok (.iload 5, 2) := by decide +kernel
theorem dX1_makePartsSmaller_22 : decode cX1_makePartsSmaller 22 = .ok (.invokestatic 57, 3) := by decide +kernel
theorem dX1_makePartsSmaller_25 : decode cX1_makePartsSmaller 25 = .ok (.iload_n 1, 1) := by decide +kernel
theorem dX1_makePartsSmaller_26 : decode cX1_makePartsSmaller 26 = .ok (.iload_n 3, 1) := by decide +kernel
theorem dX1_makePartsSmaller_27 : decode cX1_makePartsSmaller 27 = .ok (.iload 5, 2) := by decide +kernel
theorem dX1_makePartsSmaller_29 : decode cX1_makePartsSmaller 29 = .ok (.invokestatic 60, 3) := by decide +kernel
theorem dX1_makePartsSmaller_32 : decode cX1_makePartsSmaller 32 = .ok (.invokevirtual 81, 3) := by decide +kernel
theorem dX1_makePartsSmaller_35 : decode cX1_makePartsSmaller 35 = .ok (.iadd, 1) := by decide +kernel
theorem dX1_makePartsSmaller_36 : decode cX1_makePartsSmaller 36 = .ok (.istore 4, 2) := by decide +kernel
theorem dX1_makePartsSmaller_38 : decode cX1_makePartsSmaller 38 = .ok (.iinc 5 1, 3) := by decide +kernel
theorem dX1_makePartsSmaller_41 : decode cX1_makePartsSmaller 41 = .ok (.goto (-35), 3) := by decide +kernel
theorem dX1_makePartsSmaller_44 : decode cX1_makePartsSmaller 44 = .ok (.iload 4, 2) := by decide +kernel
theorem dX1_makePartsSmaller_46 : decode cX1_makePartsSmaller 46 = .ok (.ireturn, 1) := by decide +kernel
theorem dX1_toldByOne_0 : decode cX1_toldByOne 0 = .ok (.aload_n 0, 1) := by decide +kernel
theorem dX1_toldByOne_1 : decode cX1_toldByOne 1 = .ok (.iload_n 1, 1) := by decide +kernel
theorem dX1_toldByOne_2 : decode cX1_toldByOne 2 = .ok (.iload_n 2, 1) := by decide +kernel
theorem dX1_toldByOne_3 : decode cX1_toldByOne 3 = .ok (.iload_n 3, 1) := by decide +kernel
theorem dX1_toldByOne_4 : decode cX1_toldByOne 4 = .ok (.invokevirtual 90, 3) := by decide +kernel
theorem dX1_toldByOne_7 : decode cX1_toldByOne 7 = .ok (.istore 4, 2) := by decide +kernel
theorem dX1_toldByOne_9 : decode cX1_toldByOne 9 = .ok (.aload_n 0, 1) := by decide +kernel
theorem dX1_toldByOne_10 : decode cX1_toldByOne 10 = .ok (.iload_n 1, 1) := by decide +kernel
theorem dX1_toldByOne_11 : decode cX1_toldByOne 11 = .ok (.iload_n 2, 1) := by decide +kernel
theorem dX1_toldByOne_12 : decode cX1_toldByOne 12 = .ok (.iload_n 3, 1) := by decide +kernel
theorem dX1_toldByOne_13 : decode cX1_toldByOne 13 = .ok (.invokevirtual 93, 3) := by decide +kernel
theorem dX1_toldByOne_16 : decode cX1_toldByOne 16 = .ok (.istore 5, 2) := by decide +kernel
theorem dX1_toldByOne_18 : decode cX1_toldByOne 18 = .ok (.iload 4, 2) := by decide +kernel
theorem dX1_toldByOne_20 : decode cX1_toldByOne 20 = .ok (.ifCond .lt 8, 3) := by decide +kernel
theorem dX1_toldByOne_23 : decode cX1_toldByOne 23 = .ok (.iload 5, 2) := by decide +kernel
theorem dX1_toldByOne_25 : decode cX1_toldByOne 25 = .ok (.ifCond .ge 5, 3) := by decide +kernel
theorem dX1_toldByOne_28 : decode cX1_toldByOne 28 = .ok (.iconst 2, 1) := by decide +kernel
theorem dX1_toldByOne_29 : decode cX1_toldByOne 29 = .ok (.ireturn, 1) := by decide +kernel
theorem dX1_toldByOne_30 : decode cX1_toldByOne 30 = .ok (.aload_n 0, 1) := by decide +kernel
theorem dX1_toldByOne_31 : decode cX1_toldByOne 31 = .ok (.iload 4, 2) := by decide +kernel
theorem dX1_toldByOne_33 : decode cX1_toldByOne 33 = .ok (.iload 5, 2) := by decide +kernel
theorem dX1_toldByOne_35 : decode cX1_toldByOne 35 = .ok (.invokevirtual 96, 3) := by decide +kernel
theorem dX1_toldByOne_38 : decode cX1_toldByOne 38 = .ok (.i2l, 1) := by decide +kernel
theorem dX1_toldByOne_39 : decode cX1_toldByOne 39 = .ok (.lstore 6, 2) := by decide +kernel
theorem dX1_toldByOne_41 : decode cX1_toldByOne 41 = .ok (.iload_n 1, 1) := by decide +kernel
theorem dX1_toldByOne_42 : decode cX1_toldByOne 42 = .ok (.istore 8, 2) := by decide +kernel
theorem dX1_toldByOne_44 : decode cX1_toldByOne 44 = .ok (.iload 8, 2) := by decide +kernel
theorem dX1_toldByOne_46 : decode cX1_toldByOne 46 = .ok (.iload_n 1, 1) := by decide +kernel
theorem dX1_toldByOne_47 : decode cX1_toldByOne 47 = .ok (.iload_n 3, 1) := by decide +kernel
theorem dX1_toldByOne_48 : decode cX1_toldByOne 48 = .ok (.iadd, 1) := by decide +kernel
theorem dX1_toldByOne_49 : decode cX1_toldByOne 49 = .ok (.if_icmp .ge 63, 3) := by decide +kernel
theorem dX1_toldByOne_52 : decode cX1_toldByOne 52 = .ok (.iload_n 2, 1) := by decide +kernel
theorem dX1_toldByOne_53 : decode cX1_toldByOne 53 = .ok (.istore 9, 2) := by decide +kernel
theorem dX1_toldByOne_55 : decode cX1_toldByOne 55 = .ok (.iload 9, 2) := by decide +kernel
theorem dX1_toldByOne_57 : decode cX1_toldByOne 57 = .ok (.iload_n 2, 1) := by decide +kernel
theorem dX1_toldByOne_58 : decode cX1_toldByOne 58 = .ok (.iload_n 3, 1) := by decide +kernel
theorem dX1_toldByOne_59 : decode cX1_toldByOne 59 = .ok (.iadd, 1) := by decide +kernel
theorem dX1_toldByOne_60 : decode cX1_toldByOne 60 = .ok (.if_icmp .ge 46, 3) := by decide +kernel
theorem dX1_toldByOne_63 : decode cX1_toldByOne 63 = .ok (.aload_n 0, 1) := by decide +kernel
theorem dX1_toldByOne_64 : decode cX1_toldByOne 64 = .ok (.iload 8, 2) := by decide +kernel
theorem dX1_toldByOne_66 : decode cX1_toldByOne 66 = .ok (.iload 9, 2) := by decide +kernel
theorem dX1_toldByOne_68 : decode cX1_toldByOne 68 = .ok (.invokevirtual 96, 3) := by decide +kernel
theorem dX1_toldByOne_71 : decode cX1_toldByOne 71 = .ok (.i2l, 1) := by decide +kernel
theorem dX1_toldByOne_72 : decode cX1_toldByOne 72 = .ok (.lload 6, 2) := by decide +kernel
theorem dX1_toldByOne_74 : decode cX1_toldByOne 74 = .ok (.lmul, 1) := by decide +kernel
theorem dX1_toldByOne_75 : decode cX1_toldByOne 75 = .ok (.aload_n 0, 1) := by decide +kernel
theorem dX1_toldByOne_76 : decode cX1_toldByOne 76 = .ok (.iload 8, 2) := by decide +kernel
theorem dX1_toldByOne_78 : decode cX1_toldByOne 78 = .ok (.iload 5, 2) := by decide +kernel
theorem dX1_toldByOne_80 : decode cX1_toldByOne 80 = .ok (.invokevirtual 96, 3) := by decide +kernel
theorem dX1_toldByOne_83 : decode cX1_toldByOne 83 = .ok (.i2l, 1) := by decide +kernel
theorem dX1_toldByOne_84 : decode cX1_toldByOne 84 = .ok (.aload_n 0, 1) := by decide +kernel
theorem dX1_toldByOne_85 : decode cX1_toldByOne 85 = .ok (.iload 4, 2) := by decide +kernel
theorem dX1_toldByOne_87 : decode cX1_toldByOne 87 = .ok (.iload 9, 2) := by decide +kernel
theorem dX1_toldByOne_89 : decode cX1_toldByOne 89 = .ok (.invokevirtual 96, 3) := by decide +kernel
theorem dX1_toldByOne_92 : decode cX1_toldByOne 92 = .ok (.i2l, 1) := by decide +kernel
theorem dX1_toldByOne_93 : decode cX1_toldByOne 93 = .ok (.lmul, 1) := by decide +kernel
theorem dX1_toldByOne_94 : decode cX1_toldByOne 94 = .ok (.lcmp, 1) := by decide +kernel
theorem dX1_toldByOne_95 : decode cX1_toldByOne 95 = .ok (.ifCond .eq 5, 3) := by decide +kernel
theorem dX1_toldByOne_98 : decode cX1_toldByOne 98 = .ok (.iconst 0, 1) := by decide +kernel
theorem dX1_toldByOne_99 : decode cX1_toldByOne 99 = .ok (.ireturn, 1) := by decide +kernel
theorem dX1_toldByOne_100 : decode cX1_toldByOne 100 = .ok (.iinc 9 1, 3) := by decide +kernel
theorem dX1_toldByOne_103 : decode cX1_toldByOne 103 = .ok (.goto (-48), 3) := by decide +kernel
theorem dX1_toldByOne_106 : decode cX1_toldByOne 106 = .ok (.iinc 8 1, 3) := by decide +kernel
theorem dX1_toldByOne_109 : decode cX1_toldByOne 109 = .ok (.goto (-65), 3) := by decide +kernel
theorem dX1_toldByOne_112 : decode cX1_toldByOne 112 = .ok (.iconst 1, 1) := by decide +kernel
theorem dX1_toldByOne_113 : decode cX1_toldByOne 113 = .ok (.ireturn, 1) := by decide +kernel
theorem dX1_firstFilledRow_0 : decode cX1_firstFilledRow 0 = .ok (.iload_n 1, 1) := by decide +kernel
theorem dX1_firstFilledRow_1 : decode cX1_firstFilledRow 1 = .ok (.istore 4, 2) := by decide +kernel
theorem dX1_firstFilledRow_3 : decode cX1_firstFilledRow 3 = .ok (.iload 4, 2) := by decide +kernel
theorem dX1_firstFilledRow_5 : decode cX1_firstFilledRow 5 = .ok (.iload_n 1, 1) := by decide +kernel
theorem dX1_firstFilledRow_6 : decode cX1_firstFilledRow 6 = .ok (.iload_n 3, 1) := by decide +kernel
theorem dX1_firstFilledRow_7 : decode cX1_firstFilledRow 7 = .ok (.iadd, 1) := by decide +kernel
theorem dX1_firstFilledRow_8 : decode cX1_firstFilledRow 8 = .ok (.if_icmp .ge 44, 3) := by decide +kernel
theorem dX1_firstFilledRow_11 : decode cX1_firstFilledRow 11 = .ok (.iload_n 2, 1) := by decide +kernel
theorem dX1_firstFilledRow_12 : decode cX1_firstFilledRow 12 = .ok (.istore 5, 2) := by decide +kernel
theorem dX1_firstFilledRow_14 : decode cX1_firstFilledRow 14 = .ok (.iload 5, 2) := by decide +kernel
theorem dX1_firstFilledRow_16 : decode cX1_firstFilledRow 16 = .ok (.iload_n 2, 1) := by decide +kernel
theorem dX1_firstFilledRow_17 : decode cX1_firstFilledRow 17 = .ok (.iload_n 3, 1) := by decide +kernel
theorem dX1_firstFilledRow_18 : decode cX1_firstFilledRow 18 = .ok (.iadd, 1) := by decide +kernel
theorem dX1_firstFilledRow_19 : decode cX1_firstFilledRow 19 = .ok (.if_icmp .ge 27, 3) := by decide +kernel
theorem dX1_firstFilledRow_22 : decode cX1_firstFilledRow 22 = .ok (.aload_n 0, 1) := by decide +kernel
theorem dX1_firstFilledRow_23 : decode cX1_firstFilledRow 23 = .ok (.getfield 9, 3) := by decide +kernel
theorem dX1_firstFilledRow_26 : decode cX1_firstFilledRow 26 = .ok (.iload 4, 2) := by decide +kernel
theorem dX1_firstFilledRow_28 : decode cX1_firstFilledRow 28 = .ok (.iload 5, 2) := by decide +kernel
theorem dX1_firstFilledRow_30 : decode cX1_firstFilledRow 30 = .ok (.invokestatic 28, 3) := by decide +kernel
theorem dX1_firstFilledRow_33 : decode cX1_firstFilledRow 33 = .ok (.iaload, 1) := by decide +kernel
theorem dX1_firstFilledRow_34 : decode cX1_firstFilledRow 34 = .ok (.ifCond .eq 6, 3) := by decide +kernel
theorem dX1_firstFilledRow_37 : decode cX1_firstFilledRow 37 = .ok (.iload 4, 2) := by decide +kernel
theorem dX1_firstFilledRow_39 : decode cX1_firstFilledRow 39 = .ok (.ireturn, 1) := by decide +kernel
theorem dX1_firstFilledRow_40 : decode cX1_firstFilledRow 40 = .ok (.iinc 5 1, 3) := by decide +kernel
theorem dX1_firstFilledRow_43 : decode cX1_firstFilledRow 43 = .ok (.goto (-29), 3) := by decide +kernel
theorem dX1_firstFilledRow_46 : decode cX1_firstFilledRow 46 = .ok (.iinc 4 1, 3) := by decide +kernel
theorem dX1_firstFilledRow_49 : decode cX1_firstFilledRow 49 = .ok (.goto (-46), 3) := by decide +kernel
theorem dX1_firstFilledRow_52 : decode cX1_firstFilledRow 52 = .ok (.iconst (-1), 1) := by decide +kernel
theorem dX1_firstFilledRow_53 : decode cX1_firstFilledRow 53 = .ok (.ireturn, 1) := by decide +kernel
theorem dX1_firstFilledColumn_0 : decode cX1_firstFilledColumn 0 = .ok (.iload_n 2, 1) := by decide +kernel
theorem dX1_firstFilledColumn_1 : decode cX1_firstFilledColumn 1 = .ok (.istore 4, 2) := by decide +kernel
theorem dX1_firstFilledColumn_3 : decode cX1_firstFilledColumn 3 = .ok (.iload 4, 2) := by decide +kernel
theorem dX1_firstFilledColumn_5 : decode cX1_firstFilledColumn 5 = .ok (.iload_n 2, 1) := by decide +kernel
theorem dX1_firstFilledColumn_6 : decode cX1_firstFilledColumn 6 = .ok (.iload_n 3, 1) := by decide +kernel
theorem dX1_firstFilledColumn_7 : decode cX1_firstFilledColumn 7 = .ok (.iadd, 1) := by decide +kernel
theorem dX1_firstFilledColumn_8 : decode cX1_firstFilledColumn 8 = .ok (.if_icmp .ge 44, 3) := by decide +kernel
theorem dX1_firstFilledColumn_11 : decode cX1_firstFilledColumn 11 = .ok (.iload_n 1, 1) := by decide +kernel
theorem dX1_firstFilledColumn_12 : decode cX1_firstFilledColumn 12 = .ok (.istore 5, 2) := by decide +kernel
theorem dX1_firstFilledColumn_14 : decode cX1_firstFilledColumn 14 = .ok (.iload 5, 2) := by decide +kernel
theorem dX1_firstFilledColumn_16 : decode cX1_firstFilledColumn 16 = .ok (.iload_n 1, 1) := by decide +kernel
theorem dX1_firstFilledColumn_17 : decode cX1_firstFilledColumn 17 = .ok (.iload_n 3, 1) := by decide +kernel
theorem dX1_firstFilledColumn_18 : decode cX1_firstFilledColumn 18 = .ok (.iadd, 1) := by decide +kernel
theorem dX1_firstFilledColumn_19 : decode cX1_firstFilledColumn 19 = .ok (.if_icmp .ge 27, 3) := by decide +kernel
theorem dX1_firstFilledColumn_22 : decode cX1_firstFilledColumn 22 = .ok (.aload_n 0, 1) := by decide +kernel
theorem dX1_firstFilledColumn_23 : decode cX1_firstFilledColumn 23 = .ok (.getfield 9, 3) := by decide +kernel
theorem dX1_firstFilledColumn_26 : decode cX1_firstFilledColumn 26 = .ok (.iload 5, 2) := by decide +kernel
theorem dX1_firstFilledColumn_28 : decode cX1_firstFilledColumn 28 = .ok (.iload 4, 2) := by decide +kernel
theorem dX1_firstFilledColumn_30 : decode cX1_firstFilledColumn 30 = .ok (.invokestatic 28, 3) := by decide +kernel
theorem dX1_firstFilledColumn_33 : decode cX1_firstFilledColumn 33 = .ok (.iaload, 1) := by decide +kernel
theorem dX1_firstFilledColumn_34 : decode cX1_firstFilledColumn 34 = .ok (.ifCond .eq 6, 3) := by decide +kernel
theorem dX1_firstFilledColumn_37 : decode cX1_firstFilledColumn 37 = .ok (.iload 4, 2) := by decide +kernel
theorem dX1_firstFilledColumn_39 : decode cX1_firstFilledColumn 39 = .ok (.ireturn, 1) := by decide +kernel
theorem dX1_firstFilledColumn_40 : decode cX1_firstFilledColumn 40 = .ok (.iinc 5 1, 3) := by decide +kernel
theorem dX1_firstFilledColumn_43 : decode cX1_firstFilledColumn 43 = .ok (.goto (-29), 3) := by decide +kernel
theorem dX1_firstFilledColumn_46 : decode cX1_firstFilledColumn 46 = .ok (.iinc 4 1, 3) := by decide +kernel
theorem dX1_firstFilledColumn_49 : decode cX1_firstFilledColumn 49 = .ok (.goto (-46), 3) := by decide +kernel
theorem dX1_firstFilledColumn_52 : decode cX1_firstFilledColumn 52 = .ok (.iconst (-1), 1) := by decide +kernel
theorem dX1_firstFilledColumn_53 : decode cX1_firstFilledColumn 53 = .ok (.ireturn, 1) := by decide +kernel
theorem dX1_join_0 : decode cX1_join 0 = .ok (.aload_n 0, 1) := by decide +kernel
theorem dX1_join_1 : decode cX1_join 1 = .ok (.aload_n 1, 1) := by decide +kernel
theorem dX1_join_2 : decode cX1_join 2 = .ok (.iload_n 2, 1) := by decide +kernel
theorem dX1_join_3 : decode cX1_join 3 = .ok (.iconst 0, 1) := by decide +kernel
theorem dX1_join_4 : decode cX1_join 4 = .ok (.iconst 0, 1) := by decide +kernel
theorem dX1_join_5 : decode cX1_join 5 = .ok (.iconst 0, 1) := by decide +kernel
theorem dX1_join_6 : decode cX1_join 6 = .ok (.invokevirtual 99, 3) := by decide +kernel
theorem dX1_join_9 : decode cX1_join 9 = .ok (.return_, 1) := by decide +kernel
theorem dX1_joinFrom_0 : decode cX1_joinFrom 0 = .ok (.aload_n 1, 1) := by decide +kernel
theorem dX1_joinFrom_1 : decode cX1_joinFrom 1 = .ok (.iload_n 3, 1) := by decide +kernel
theorem dX1_joinFrom_2 : decode cX1_joinFrom 2 = .ok (.iload 4, 2) := by decide +kernel
theorem dX1_joinFrom_4 : decode cX1_joinFrom 4 = .ok (.iload 5, 2) := by decide +kernel
theorem dX1_joinFrom_6 : decode cX1_joinFrom 6 = .ok (.invokevirtual 36, 3) := by decide +kernel
theorem dX1_joinFrom_9 : decode cX1_joinFrom 9 = .ok (.ifCond .ne 4, 3) := by decide +kernel
theorem dX1_joinFrom_12 : decode cX1_joinFrom 12 = .ok (.return_, 1) := by decide +kernel
theorem dX1_joinFrom_13 : decode cX1_joinFrom 13 = .ok (.aload_n 0, 1) := by decide +kernel
theorem dX1_joinFrom_14 : decode cX1_joinFrom 14 = .ok (.iload_n 3, 1) := by decide +kernel
theorem dX1_joinFrom_15 : decode cX1_joinFrom 15 = .ok (.iload 4, 2) := by decide +kernel
theorem dX1_joinFrom_17 : decode cX1_joinFrom 17 = .ok (.iload 5, 2) := by decide +kernel
theorem dX1_joinFrom_19 : decode cX1_joinFrom 19 = .ok (.invokevirtual 39, 3) := by decide +kernel
theorem dX1_joinFrom_22 : decode cX1_joinFrom 22 = .ok (.ifCond .eq 15, 3) := by decide +kernel
theorem dX1_joinFrom_25 : decode cX1_joinFrom 25 = .ok (.aload_n 1, 1) := by decide +kernel
theorem dX1_joinFrom_26 : decode cX1_joinFrom 26 = .ok (.iload_n 3, 1) := by decide +kernel
theorem dX1_joinFrom_27 : decode cX1_joinFrom 27 = .ok (.iload 4, 2) := by decide +kernel
theorem dX1_joinFrom_29 : decode cX1_joinFrom 29 = .ok (.iload 5, 2) := by decide +kernel
theorem dX1_joinFrom_31 : decode cX1_joinFrom 31 = .ok (.invokevirtual 39, 3) := by decide +kernel
theorem dX1_joinFrom_34 : decode cX1_joinFrom 34 = .ok (.ifCond .ne 15, 3) := by decide +kernel
theorem dX1_joinFrom_37 : decode cX1_joinFrom 37 = .ok (.aload_n 0, 1) := by decide +kernel
theorem dX1_joinFrom_38 : decode cX1_joinFrom 38 = .ok (.aload_n 1, 1) := by decide +kernel
theorem dX1_joinFrom_39 : decode cX1_joinFrom 39 = .ok (.iload_n 2, 1) := by decide +kernel
theorem dX1_joinFrom_40 : decode cX1_joinFrom 40 = .ok (.iload_n 3, 1) := by decide +kernel
theorem dX1_joinFrom_41 : decode cX1_joinFrom 41 = .ok (.iload 4, 2) := by decide +kernel
theorem dX1_joinFrom_43 : decode cX1_joinFrom 43 = .ok (.iload 5, 2) := by decide +kernel
theorem dX1_joinFrom_45 : decode cX1_joinFrom 45 = .ok (.invokevirtual 103, 3) := by decide +kernel
theorem dX1_joinFrom_48 : decode cX1_joinFrom 48 = .ok (.return_, 1) := by decide +kernel
theorem dX1_joinFrom_49 : decode cX1_joinFrom 49 = .ok (.iconst 0, 1) := by decide +kernel
theorem dX1_joinFrom_50 : decode cX1_joinFrom 50 = .ok (.istore 6, 2) := by decide +kernel
theorem dX1_joinFrom_52 : decode cX1_joinFrom 52 = .ok (.iload 6, 2) := by decide +kernel
theorem dX1_joinFrom_54 : decode cX1_joinFrom 54 = .ok (.iconst 4, 1) := by decide +kernel
theorem dX1_joinFrom_55 : decode cX1_joinFrom 55 = .ok (.if_icmp .ge 34, 3) := by decide +kernel
theorem dX1_joinFrom_58 : decode cX1_joinFrom 58 = .ok (.aload_n 0, 1) := by decide +kernel
theorem dX1_joinFrom_59 : decode cX1_joinFrom 59 = .ok (.aload_n 1, 1) := by decide +kernel
theorem dX1_joinFrom_60 : decode cX1_joinFrom 60 = .ok (.iload_n 2, 1) := by decide +kernel
theorem dX1_joinFrom_61 : decode cX1_joinFrom 61 = .ok (.iload_n 3, 1) := by decide +kernel
theorem dX1_joinFrom_62 : decode cX1_joinFrom 62 = .ok (.iconst 1, 1) := by decide +kernel
theorem dX1_joinFrom_63 : decode cX1_joinFrom 63 = .ok (.iadd, 1) := by decide +kernel
theorem dX1_joinFrom_64 : decode cX1_joinFrom 64 = .ok (.iload_n 3, 1) := by decide +kernel
theorem dX1_joinFrom_65 : decode cX1_joinFrom 65 = .ok (.iload 4, 2) := by decide +kernel
theorem dX1_joinFrom_67 : decode cX1_joinFrom 67 = .ok (.iload 6, 2) := by decide +kernel
theorem dX1_joinFrom_69 : decode cX1_joinFrom 69 = .ok (.invokestatic 57, 3) := by decide +kernel
theorem dX1_joinFrom_72 : decode cX1_joinFrom 72 = .ok (.iload_n 3, 1) := by decide +kernel
theorem dX1_joinFrom_73 : decode cX1_joinFrom 73 = .ok (.iload 5, 2) := by decide +kernel
theorem dX1_joinFrom_75 : decode cX1_joinFrom 75 = .ok (.iload 6, 2) := by decide +kernel
theorem dX1_joinFrom_77 : decode cX1_joinFrom 77 = .ok (.invokestatic 60, 3) := by decide +kernel
theorem dX1_joinFrom_80 : decode cX1_joinFrom 80 = .ok (.invokevirtual 99, 3) := by decide +kernel
theorem dX1_joinFrom_83 : decode cX1_joinFrom 83 = .ok (.iinc 6 1, 3) := by decide +kernel
theorem dX1_joinFrom_86 : decode cX1_joinFrom 86 = .ok (.goto (-34), 3) := by decide +kernel
theorem dX1_joinFrom_89 : decode cX1_joinFrom 89 = .ok (.return_, 1) := by decide +kernel
theorem dX1_joinEntries_0 : decode cX1_joinEntries 0 = .ok (.aload_n 0, 1) := by decide +kernel
theorem dX1_joinEntries_1 : decode cX1_joinEntries 1 = .ok (.iload_n 3, 1) := by decide +kernel
theorem dX1_joinEntries_2 : decode cX1_joinEntries 2 = .ok (.iload 4, 2) := by decide +kernel
theorem dX1_joinEntries_4 : decode cX1_joinEntries 4 = .ok (.iload 5, 2) := by decide +kernel
theorem dX1_joinEntries_6 : decode cX1_joinEntries 6 = .ok (.iconst 1, 1) := by decide +kernel
theorem dX1_joinEntries_7 : decode cX1_joinEntries 7 = .ok (.invokevirtual 71, 3) := by decide +kernel
theorem dX1_joinEntries_10 : decode cX1_joinEntries 10 = .ok (.iload_n 3, 1) := by decide +kernel
theorem dX1_joinEntries_11 : decode cX1_joinEntries 11 = .ok (.invokestatic 24, 3) := by decide +kernel
theorem dX1_joinEntries_14 : decode cX1_joinEntries 14 = .ok (.istore 6, 2) := by decide +kernel
theorem dX1_joinEntries_16 : decode cX1_joinEntries 16 = .ok (.iconst 0, 1) := by decide +kernel
theorem dX1_joinEntries_17 : decode cX1_joinEntries 17 = .ok (.istore 7, 2) := by decide +kernel
theorem dX1_joinEntries_19 : decode cX1_joinEntries 19 = .ok (.iload 7, 2) := by decide +kernel
theorem dX1_joinEntries_21 : decode cX1_joinEntries 21 = .ok (.iload 6, 2) := by decide +kernel
theorem dX1_joinEntries_23 : decode cX1_joinEntries 23 = .ok (.if_icmp .ge 78, 3) := by decide +kernel
theorem dX1_joinEntries_26 : decode cX1_joinEntries 26 = .ok (.iconst 0, 1) := by decide +kernel
theorem dX1_joinEntries_27 : decode cX1_joinEntries 27 = .ok (.istore 8, 2) := by decide +kernel
theorem dX1_joinEntries_29 : decode cX1_joinEntries 29 = .ok (.iload 8, 2) := by decide +kernel
theorem dX1_joinEntries_31 : decode cX1_joinEntries 31 = .ok (.iload 6, 2) := by decide +kernel
theorem dX1_joinEntries_33 : decode cX1_joinEntries 33 = .ok (.if_icmp .ge 62, 3) := by decide +kernel
theorem dX1_joinEntries_36 : decode cX1_joinEntries 36 = .ok (.iload 4, 2) := by decide +kernel
theorem dX1_joinEntries_38 : decode cX1_joinEntries 38 = .ok (.iload 7, 2) := by decide +kernel
theorem dX1_joinEntries_40 : decode cX1_joinEntries 40 = .ok (.iadd, 1) := by decide +kernel
theorem dX1_joinEntries_41 : decode cX1_joinEntries 41 = .ok (.iload 5, 2) := by decide +kernel
theorem dX1_joinEntries_43 : decode cX1_joinEntries 43 = .ok (.iload 8, 2) := by decide +kernel
theorem dX1_joinEntries_45 : decode cX1_joinEntries 45 = .ok (.iadd, 1) := by decide +kernel
theorem dX1_joinEntries_46 : decode cX1_joinEntries 46 = .ok (.invokestatic 28, 3) := by decide +kernel
theorem dX1_joinEntries_49 : decode cX1_joinEntries 49 = .ok (.istore 9, 2) := by decide +kernel
theorem dX1_joinEntries_51 : decode cX1_joinEntries 51 = .ok (.aload_n 0, 1) := by decide +kernel
theorem dX1_joinEntries_52 : decode cX1_joinEntries 52 = .ok (.getfield 9, 3) := by decide +kernel
theorem dX1_joinEntries_55 : decode cX1_joinEntries 55 = .ok (.iload 9, 2) := by decide +kernel
theorem dX1_joinEntries_57 : decode cX1_joinEntries 57 = .ok (.iaload, 1) := by decide +kernel
theorem dX1_joinEntries_58 : decode cX1_joinEntries 58 = .ok (.aload_n 1, 1) := by decide +kernel
theorem dX1_joinEntries_59 : decode cX1_joinEntries 59 = .ok (.getfield 9, 3) := by decide +kernel
theorem dX1_joinEntries_62 : decode cX1_joinEntries 62 = .ok (.iload 9, 2) := by decide +kernel
theorem dX1_joinEntries_64 : decode cX1_joinEntries 64 = .ok (.iaload, 1) := by decide +kernel
theorem dX1_joinEntries_65 : decode cX1_joinEntries 65 = .ok (.iload_n 2, 1) := by decide +kernel
theorem dX1_joinEntries_66 : decode cX1_joinEntries 66 = .ok (.imul, 1) := by decide +kernel
theorem dX1_joinEntries_67 : decode cX1_joinEntries 67 = .ok (.iadd, 1) := by decide +kernel
theorem dX1_joinEntries_68 : decode cX1_joinEntries 68 = .ok (.istore 10, 2) := by decide +kernel
theorem dX1_joinEntries_70 : decode cX1_joinEntries 70 = .ok (.aload_n 0, 1) := by decide +kernel
theorem dX1_joinEntries_71 : decode cX1_joinEntries 71 = .ok (.getfield 9, 3) := by decide +kernel
theorem dX1_joinEntries_74 : decode cX1_joinEntries 74 = .ok (.iload 9, 2) := by decide +kernel
theorem dX1_joinEntries_76 : decode cX1_joinEntries 76 = .ok (.ldc 106, 2) := by decide +kernel
theorem dX1_joinEntries_78 : decode cX1_joinEntries 78 = .ok (.ldc 107, 2) := by decide +kernel
theorem dX1_joinEntries_80 : decode cX1_joinEntries 80 = .ok (.iload 10, 2) := by decide +kernel
theorem dX1_joinEntries_82 : decode cX1_joinEntries 82 = .ok (.invokestatic 108, 3) := by decide +kernel
theorem dX1_joinEntries_85 : decode cX1_joinEntries 85 = .ok (.invokestatic 46, 3) := by decide +kernel
theorem dX1_joinEntries_88 : decode cX1_joinEntries 88 = .ok (.iastore, 1) := by decide +kernel
theorem dX1_joinEntries_89 : decode cX1_joinEntries 89 = .ok (.iinc 8 1, 3) := by decide +kernel
theorem dX1_joinEntries_92 : decode cX1_joinEntries 92 = .ok (.goto (-63), 3) := by decide +kernel
theorem dX1_joinEntries_95 : decode cX1_joinEntries 95 = .ok (.iinc 7 1, 3) := by decide +kernel
theorem dX1_joinEntries_98 : decode cX1_joinEntries 98 = .ok (.goto (-79), 3) := by decide +kernel
theorem dX1_joinEntries_101 : decode cX1_joinEntries 101 = .ok (.return_, 1) := by decide +kernel
theorem dX1_transpose_0 : decode cX1_transpose 0 = .ok (.iconst 0, 1) := by decide +kernel
theorem dX1_transpose_1 : decode cX1_transpose 1 = .ok (.istore_n 1, 1) := by decide +kernel
theorem dX1_transpose_2 : decode cX1_transpose 2 = .ok (.iload_n 1, 1) := by decide +kernel
theorem dX1_transpose_3 : decode cX1_transpose 3 = .ok (.bipush 16, 2) := by decide +kernel
theorem dX1_transpose_5 : decode cX1_transpose 5 = .ok (.if_icmp .ge 39, 3) := by decide +kernel
theorem dX1_transpose_8 : decode cX1_transpose 8 = .ok (.iconst 0, 1) := by decide +kernel
theorem dX1_transpose_9 : decode cX1_transpose 9 = .ok (.istore_n 2, 1) := by decide +kernel
theorem dX1_transpose_10 : decode cX1_transpose 10 = .ok (.iload_n 2, 1) := by decide +kernel
theorem dX1_transpose_11 : decode cX1_transpose 11 = .ok (.iload_n 1, 1) := by decide +kernel
theorem dX1_transpose_12 : decode cX1_transpose 12 = .ok (.if_icmp .ge 26, 3) := by decide +kernel
theorem dX1_transpose_15 : decode cX1_transpose 15 = .ok (.aload_n 0, 1) := by decide +kernel
theorem dX1_transpose_16 : decode cX1_transpose 16 = .ok (.getfield 9, 3) := by decide +kernel
theorem dX1_transpose_19 : decode cX1_transpose 19 = .ok (.iload_n 1, 1) := by decide +kernel
theorem dX1_transpose_20 : decode cX1_transpose 20 = .ok (.iload_n 2, 1) := by decide +kernel
theorem dX1_transpose_21 : decode cX1_transpose 21 = .ok (.invokestatic 28, 3) := by decide +kernel
theorem dX1_transpose_24 : decode cX1_transpose 24 = .ok (.iload_n 2, 1) := by decide +kernel
theorem dX1_transpose_25 : decode cX1_transpose 25 = .ok (.iload_n 1, 1) := by decide +kernel
theorem dX1_transpose_26 : decode cX1_transpose 26 = .ok (.invokestatic 28, 3) := by decide +kernel
theorem dX1_transpose_29 : decode cX1_transpose 29 = .ok (.invokestatic 111, 3) := by decide +kernel
theorem dX1_transpose_32 : decode cX1_transpose 32 = .ok (.iinc 2 1, 3) := by decide +kernel
theorem dX1_transpose_35 : decode cX1_transpose 35 = .ok (.goto (-25), 3) := by decide +kernel
theorem dX1_transpose_38 : decode cX1_transpose 38 = .ok (.iinc 1 1, 3) := by decide +kernel
theorem dX1_transpose_41 : decode cX1_transpose 41 = .ok (.goto (-39), 3) := by decide +kernel
theorem dX1_transpose_44 : decode cX1_transpose 44 = .ok (.iconst 0, 1) := by decide +kernel
theorem dX1_transpose_45 : decode cX1_transpose 45 = .ok (.istore_n 1, 1) := by decide +kernel
theorem dX1_transpose_46 : decode cX1_transpose 46 = .ok (.iload_n 1, 1) := by decide +kernel
theorem dX1_transpose_47 : decode cX1_transpose 47 = .ok (.iconst 3, 1) := by decide +kernel
theorem dX1_transpose_48 : decode cX1_transpose 48 = .ok (.if_icmp .gt 14, 3) := by decide +kernel
theorem dX1_transpose_51 : decode cX1_transpose 51 = .ok (.aload_n 0, 1) := by decide +kernel
theorem dX1_transpose_52 : decode cX1_transpose 52 = .ok (.iload_n 1, 1) := by decide +kernel
theorem dX1_transpose_53 : decode cX1_transpose 53 = .ok (.invokevirtual 115, 3) := by decide +kernel
theorem dX1_transpose_56 : decode cX1_transpose 56 = .ok (.iinc 1 1, 3) := by decide +kernel
theorem dX1_transpose_59 : decode cX1_transpose 59 = .ok (.goto (-13), 3) := by decide +kernel
theorem dX1_transpose_62 : decode cX1_transpose 62 = .ok (.return_, 1) := by decide +kernel
theorem dX1_transposeSorts_0 : decode cX1_transposeSorts 0 = .ok (.iload_n 1, 1) := by decide +kernel
theorem dX1_transposeSorts_1 : decode cX1_transposeSorts 1 = .ok (.invokestatic 24, 3) := by decide +kernel
theorem dX1_transposeSorts_4 : decode cX1_transposeSorts 4 = .ok (.istore_n 2, 1) := by decide +kernel
theorem dX1_transposeSorts_5 : decode cX1_transposeSorts 5 = .ok (.iconst 0, 1) := by decide +kernel
theorem dX1_transposeSorts_6 : decode cX1_transposeSorts 6 = .ok (.istore_n 3, 1) := by decide +kernel
theorem dX1_transposeSorts_7 : decode cX1_transposeSorts 7 = .ok (.iload_n 3, 1) := by decide +kernel
theorem dX1_transposeSorts_8 : decode cX1_transposeSorts 8 = .ok (.bipush 16, 2) := by decide +kernel
theorem dX1_transposeSorts_10 : decode cX1_transposeSorts 10 = .ok (.if_icmp .ge 49, 3) := by decide +kernel
theorem dX1_transposeSorts_13 : decode cX1_transposeSorts 13 = .ok (.iconst 0, 1) := by decide +kernel
theorem dX1_transposeSorts_14 : decode cX1_transposeSorts 14 = .ok (.istore 4, 2) := by decide +kernel
theorem dX1_transposeSorts_16 : decode cX1_transposeSorts 16 = .ok (.iload 4, 2) := by decide +kernel
theorem dX1_transposeSorts_18 : decode cX1_transposeSorts 18 = .ok (.iload_n 3, 1) := by decide +kernel
theorem dX1_transposeSorts_19 : decode cX1_transposeSorts 19 = .ok (.if_icmp .ge 33, 3) := by decide +kernel
theorem dX1_transposeSorts_22 : decode cX1_transposeSorts 22 = .ok (.aload_n 0, 1) := by decide +kernel
theorem dX1_transposeSorts_23 : decode cX1_transposeSorts 23 = .ok (.getfield 15, 3) := by decide +kernel
theorem dX1_transposeSorts_26 : decode cX1_transposeSorts 26 = .ok (.iload_n 1, 1) := by decide +kernel
theorem dX1_transposeSorts_27 : decode cX1_transposeSorts 27 = .ok (.iload_n 3, 1) := by decide +kernel
theorem dX1_transposeSorts_28 : decode cX1_transposeSorts 28 = .ok (.iload 4, 2) := by decide +kernel
theorem dX1_transposeSorts_30 : decode cX1_transposeSorts 30 = .ok (.invokestatic 32, 3) := by decide +kernel
theorem dX1_transposeSorts_33 : decode cX1_transposeSorts 33 = .ok (.iload_n 1, 1) := by decide +kernel
theorem dX1_transposeSorts_34 : decode cX1_transposeSorts 34 = .ok (.iload 4, 2) := by decide +kernel
theorem dX1_transposeSorts_36 : decode cX1_transposeSorts 36 = .ok (.iload_n 3, 1) := by decide +kernel
theorem dX1_transposeSorts_37 : decode cX1_transposeSorts 37 = .ok (.invokestatic 32, 3) := by decide +kernel
theorem dX1_transposeSorts_40 : decode cX1_transposeSorts 40 = .ok (.invokestatic 111, 3) := by decide +kernel
theorem dX1_transposeSorts_43 : decode cX1_transposeSorts 43 = .ok (.iload 4, 2) := by decide +kernel
theorem dX1_transposeSorts_45 : decode cX1_transposeSorts 45 = .ok (.iload_n 2, 1) := by decide +kernel
theorem dX1_transposeSorts_46 : decode cX1_transposeSorts 46 = .ok (.iadd, 1) := by decide +kernel
theorem dX1_transposeSorts_47 : decode cX1_transposeSorts 47 = .ok (.istore 4, 2) := by decide +kernel
theorem dX1_transposeSorts_49 : decode cX1_transposeSorts 49 = .ok (.goto (-33), 3) := by decide +kernel
theorem dX1_transposeSorts_52 : decode cX1_transposeSorts 52 = .ok (.iload_n 3, 1) := by decide +kernel
theorem dX1_transposeSorts_53 : decode cX1_transposeSorts 53 = .ok (.iload_n 2, 1) := by decide +kernel
theorem dX1_transposeSorts_54 : decode cX1_transposeSorts 54 = .ok (.iadd, 1) := by decide +kernel
theorem dX1_transposeSorts_55 : decode cX1_transposeSorts 55 = .ok (.istore_n 3, 1) := by decide +kernel
theorem dX1_transposeSorts_56 : decode cX1_transposeSorts 56 = .ok (.goto (-49), 3) := by decide +kernel
theorem dX1_transposeSorts_59 : decode cX1_transposeSorts 59 = .ok (.return_, 1) := by decide +kernel
theorem dX1_swap_0 : decode cX1_swap 0 = .ok (.aload_n 0, 1) := by decide +kernel
theorem dX1_swap_1 : decode cX1_swap 1 = .ok (.iload_n 1, 1) := by decide +kernel
theorem dX1_swap_2 : decode cX1_swap 2 = .ok (.iaload, 1) := by decide +kernel
theorem dX1_swap_3 : decode cX1_swap 3 = .ok (.istore_n 3, 1) := by decide +kernel
theorem dX1_swap_4 : decode cX1_swap 4 = .ok (.aload_n 0, 1) := by decide +kernel
theorem dX1_swap_5 : decode cX1_swap 5 = .ok (.iload_n 1, 1) := by decide +kernel
theorem dX1_swap_6 : decode cX1_swap 6 = .ok (.aload_n 0, 1) := by decide +kernel
theorem dX1_swap_7 : decode cX1_swap 7 = .ok (.iload_n 2, 1) := by decide +kernel
theorem dX1_swap_8 : decode cX1_swap 8 = .ok (.iaload, 1) := by decide +kernel
theorem dX1_swap_9 : decode cX1_swap 9 = .ok (.iastore, 1) := by decide +kernel
theorem dX1_swap_10 : decode cX1_swap 10 = .ok (.aload_n 0, 1) := by decide +kernel
theorem dX1_swap_11 : decode cX1_swap 11 = .ok (.iload_n 2, 1) := by decide +kernel
theorem dX1_swap_12 : decode cX1_swap 12 = .ok (.iload_n 3, 1) := by decide +kernel
theorem dX1_swap_13 : decode cX1_swap 13 = .ok (.iastore, 1) := by decide +kernel
theorem dX1_swap_14 : decode cX1_swap 14 = .ok (.return_, 1) := by decide +kernel
theorem dX1_isItsTurned_0 : decode cX1_isItsTurned 0 = .ok (.iconst 0, 1) := by decide +kernel
theorem dX1_isItsTurned_1 : decode cX1_isItsTurned 1 = .ok (.istore_n 1, 1) := by decide +kernel
theorem dX1_isItsTurned_2 : decode cX1_isItsTurned 2 = .ok (.iload_n 1, 1) := by decide +kernel
theorem dX1_isItsTurned_3 : decode cX1_isItsTurned 3 = .ok (.bipush 16, 2) := by decide +kernel
theorem dX1_isItsTurned_5 : decode cX1_isItsTurned 5 = .ok (.if_icmp .ge 39, 3) := by decide +kernel
theorem dX1_isItsTurned_8 : decode cX1_isItsTurned 8 = .ok (.iconst 0, 1) := by decide +kernel
theorem dX1_isItsTurned_9 : decode cX1_isItsTurned 9 = .ok (.istore_n 2, 1) := by decide +kernel
theorem dX1_isItsTurned_10 : decode cX1_isItsTurned 10 = .ok (.iload_n 2, 1) := by decide +kernel
theorem dX1_isItsTurned_11 : decode cX1_isItsTurned 11 = .ok (.iload_n 1, 1) := by decide +kernel
theorem dX1_isItsTurned_12 : decode cX1_isItsTurned 12 = .ok (.if_icmp .ge 26, 3) := by decide +kernel
theorem dX1_isItsTurned_15 : decode cX1_isItsTurned 15 = .ok (.aload_n 0, 1) := by decide +kernel
theorem dX1_isItsTurned_16 : decode cX1_isItsTurned 16 = .ok (.iload_n 1, 1) := by decide +kernel
theorem dX1_isItsTurned_17 : decode cX1_isItsTurned 17 = .ok (.iload_n 2, 1) := by decide +kernel
theorem dX1_isItsTurned_18 : decode cX1_isItsTurned 18 = .ok (.invokevirtual 96, 3) := by decide +kernel
theorem dX1_isItsTurned_21 : decode cX1_isItsTurned 21 = .ok (.aload_n 0, 1) := by decide +kernel
theorem dX1_isItsTurned_22 : decode cX1_isItsTurned 22 = .ok (.iload_n 2, 1) := by decide +kernel
theorem dX1_isItsTurned_23 : decode cX1_isItsTurned 23 = .ok (.iload_n 1, 1) := by decide +kernel
theorem dX1_isItsTurned_24 : decode cX1_isItsTurned 24 = .ok (.invokevirtual 96, 3) := by decide +kernel
theorem dX1_isItsTurned_27 : decode cX1_isItsTurned 27 = .ok (.if_icmp .eq 5, 3) := by decide +kernel
theorem dX1_isItsTurned_30 : decode cX1_isItsTurned 30 = .ok (.iconst 0, 1) := by decide +kernel
theorem dX1_isItsTurned_31 : decode cX1_isItsTurned 31 = .ok (.ireturn, 1) := by decide +kernel
theorem dX1_isItsTurned_32 : decode cX1_isItsTurned 32 = .ok (.iinc 2 1, 3) := by decide +kernel
theorem dX1_isItsTurned_35 : decode cX1_isItsTurned 35 = .ok (.goto (-25), 3) := by decide +kernel
theorem dX1_isItsTurned_38 : decode cX1_isItsTurned 38 = .ok (.iinc 1 1, 3) := by decide +kernel
theorem dX1_isItsTurned_41 : decode cX1_isItsTurned 41 = .ok (.goto (-39), 3) := by decide +kernel
theorem dX1_isItsTurned_44 : decode cX1_isItsTurned 44 = .ok (.iconst 1, 1) := by decide +kernel
theorem dX1_isItsTurned_45 : decode cX1_isItsTurned 45 = .ok (.ireturn, 1) := by decide +kernel
theorem dX1_trace_0 : decode cX1_trace 0 = .ok (.iconst 0, 1) := by decide +kernel
theorem dX1_trace_1 : decode cX1_trace 1 = .ok (.istore_n 1, 1) := by decide +kernel
theorem dX1_trace_2 : decode cX1_trace 2 = .ok (.iconst 0, 1) := by decide +kernel
theorem dX1_trace_3 : decode cX1_trace 3 = .ok (.istore_n 2, 1) := by decide +kernel
theorem dX1_trace_4 : decode cX1_trace 4 = .ok (.iload_n 2, 1) := by decide +kernel
theorem dX1_trace_5 : decode cX1_trace 5 = .ok (.bipush 16, 2) := by decide +kernel
theorem dX1_trace_7 : decode cX1_trace 7 = .ok (.if_icmp .ge 18, 3) := by decide +kernel
theorem dX1_trace_10 : decode cX1_trace 10 = .ok (.iload_n 1, 1) := by decide +kernel
theorem dX1_trace_11 : decode cX1_trace 11 = .ok (.aload_n 0, 1) := by decide +kernel
theorem dX1_trace_12 : decode cX1_trace 12 = .ok (.iload_n 2, 1) := by decide +kernel
theorem dX1_trace_13 : decode cX1_trace 13 = .ok (.iload_n 2, 1) := by decide +kernel
theorem dX1_trace_14 : decode cX1_trace 14 = .ok (.invokevirtual 96, 3) := by decide +kernel
theorem dX1_trace_17 : decode cX1_trace 17 = .ok (.iadd, 1) := by decide +kernel
theorem dX1_trace_18 : decode cX1_trace 18 = .ok (.istore_n 1, 1) := by decide +kernel
theorem dX1_trace_19 : decode cX1_trace 19 = .ok (.iinc 2 1, 3) := by decide +kernel
theorem dX1_trace_22 : decode cX1_trace 22 = .ok (.goto (-18), 3) := by decide +kernel
theorem dX1_trace_25 : decode cX1_trace 25 = .ok (.iload_n 1, 1) := by decide +kernel
theorem dX1_trace_26 : decode cX1_trace 26 = .ok (.ireturn, 1) := by decide +kernel
theorem dX1_sum_0 : decode cX1_sum 0 = .ok (.iconst 0, 1) := by decide +kernel
theorem dX1_sum_1 : decode cX1_sum 1 = .ok (.istore_n 1, 1) := by decide +kernel
theorem dX1_sum_2 : decode cX1_sum 2 = .ok (.iconst 0, 1) := by decide +kernel
theorem dX1_sum_3 : decode cX1_sum 3 = .ok (.istore_n 2, 1) := by decide +kernel
theorem dX1_sum_4 : decode cX1_sum 4 = .ok (.iload_n 2, 1) := by decide +kernel
theorem dX1_sum_5 : decode cX1_sum 5 = .ok (.sipush 256, 3) := by decide +kernel
theorem dX1_sum_8 : decode cX1_sum 8 = .ok (.if_icmp .ge 18, 3) := by decide +kernel
theorem dX1_sum_11 : decode cX1_sum 11 = .ok (.iload_n 1, 1) := by decide +kernel
theorem dX1_sum_12 : decode cX1_sum 12 = .ok (.aload_n 0, 1) := by decide +kernel
theorem dX1_sum_13 : decode cX1_sum 13 = .ok (.getfield 9, 3) := by decide +kernel
theorem dX1_sum_16 : decode cX1_sum 16 = .ok (.iload_n 2, 1) := by decide +kernel
theorem dX1_sum_17 : decode cX1_sum 17 = .ok (.iaload, 1) := by decide +kernel
theorem dX1_sum_18 : decode cX1_sum 18 = .ok (.iadd, 1) := by decide +kernel
theorem dX1_sum_19 : decode cX1_sum 19 = .ok (.istore_n 1, 1) := by decide +kernel
theorem dX1_sum_20 : decode cX1_sum 20 = .ok (.iinc 2 1, 3) := by decide +kernel
theorem dX1_sum_23 : decode cX1_sum 23 = .ok (.goto (-19), 3) := by decide +kernel
theorem dX1_sum_26 : decode cX1_sum 26 = .ok (.iload_n 1, 1) := by decide +kernel
theorem dX1_sum_27 : decode cX1_sum 27 = .ok (.ireturn, 1) := by decide +kernel
theorem dX1_filledEntries_0 : decode cX1_filledEntries 0 = .ok (.iconst 0, 1) := by decide +kernel
theorem dX1_filledEntries_1 : decode cX1_filledEntries 1 = .ok (.istore_n 1, 1) := by decide +kernel
theorem dX1_filledEntries_2 : decode cX1_filledEntries 2 = .ok (.iconst 0, 1) := by decide +kernel
theorem dX1_filledEntries_3 : decode cX1_filledEntries 3 = .ok (.istore_n 2, 1) := by decide +kernel
theorem dX1_filledEntries_4 : decode cX1_filledEntries 4 = .ok (.iload_n 2, 1) := by decide +kernel
theorem dX1_filledEntries_5 : decode cX1_filledEntries 5 = .ok (.sipush 256, 3) := by decide +kernel
theorem dX1_filledEntries_8 : decode cX1_filledEntries 8 = .ok (.if_icmp .ge 26, 3) := by decide +kernel
theorem dX1_filledEntries_11 : decode cX1_filledEntries 11 = .ok (.iload_n 1, 1) := by decide +kernel
theorem dX1_filledEntries_12 : decode cX1_filledEntries 12 = .ok (.aload_n 0, 1) := by decide +kernel
theorem dX1_filledEntries_13 : decode cX1_filledEntries 13 = .ok (.getfield 9, 3) := by decide +kernel
theorem dX1_filledEntries_16 : decode cX1_filledEntries 16 = .ok (.iload_n 2, 1) := by decide +kernel
theorem dX1_filledEntries_17 : decode cX1_filledEntries 17 = .ok (.iaload, 1) := by decide +kernel
theorem dX1_filledEntries_18 : decode cX1_filledEntries 18 = .ok (.ifCond .eq 7, 3) := by decide +kernel
theorem dX1_filledEntries_21 : decode cX1_filledEntries 21 = .ok (.iconst 1, 1) := by decide +kernel
theorem dX1_filledEntries_22 : decode cX1_filledEntries 22 = .ok (.goto 4, 3) := by decide +kernel
theorem dX1_filledEntries_25 : decode cX1_filledEntries 25 = .ok (.iconst 0, 1) := by decide +kernel
theorem dX1_filledEntries_26 : decode cX1_filledEntries 26 = .ok (.iadd, 1) := by decide +kernel
theorem dX1_filledEntries_27 : decode cX1_filledEntries 27 = .ok (.istore_n 1, 1) := by decide +kernel
theorem dX1_filledEntries_28 : decode cX1_filledEntries 28 = .ok (.iinc 2 1, 3) := by decide +kernel
theorem dX1_filledEntries_31 : decode cX1_filledEntries 31 = .ok (.goto (-27), 3) := by decide +kernel
theorem dX1_filledEntries_34 : decode cX1_filledEntries 34 = .ok (.iload_n 1, 1) := by decide +kernel
theorem dX1_filledEntries_35 : decode cX1_filledEntries 35 = .ok (.ireturn, 1) := by decide +kernel
theorem dX1_greatest_0 : decode cX1_greatest 0 = .ok (.aload_n 0, 1) := by decide +kernel
theorem dX1_greatest_1 : decode cX1_greatest 1 = .ok (.getfield 9, 3) := by decide +kernel
theorem dX1_greatest_4 : decode cX1_greatest 4 = .ok (.iconst 0, 1) := by decide +kernel
theorem dX1_greatest_5 : decode cX1_greatest 5 = .ok (.iaload, 1) := by decide +kernel
theorem dX1_greatest_6 : decode cX1_greatest 6 = .ok (.istore_n 1, 1) := by decide +kernel
theorem dX1_greatest_7 : decode cX1_greatest 7 = .ok (.iconst 1, 1) := by decide +kernel
theorem dX1_greatest_8 : decode cX1_greatest 8 = .ok (.istore_n 2, 1) := by decide +kernel
theorem dX1_greatest_9 : decode cX1_greatest 9 = .ok (.iload_n 2, 1) := by decide +kernel
theorem dX1_greatest_10 : decode cX1_greatest 10 = .ok (.sipush 256, 3) := by decide +kernel
theorem dX1_greatest_13 : decode cX1_greatest 13 = .ok (.if_icmp .ge 20, 3) := by decide +kernel
theorem dX1_greatest_16 : decode cX1_greatest 16 = .ok (.iload_n 1, 1) := by decide +kernel
theorem dX1_greatest_17 : decode cX1_greatest 17 = .ok (.aload_n 0, 1) := by decide +kernel
theorem dX1_greatest_18 : decode cX1_greatest 18 = .ok (.getfield 9, 3) := by decide +kernel
theorem dX1_greatest_21 : decode cX1_greatest 21 = .ok (.iload_n 2, 1) := by decide +kernel
theorem dX1_greatest_22 : decode cX1_greatest 22 = .ok (.iaload, 1) := by decide +kernel
theorem dX1_greatest_23 : decode cX1_greatest 23 = .ok (.invokestatic 46, 3) := by decide +kernel
theorem dX1_greatest_26 : decode cX1_greatest 26 = .ok (.istore_n 1, 1) := by decide +kernel
theorem dX1_greatest_27 : decode cX1_greatest 27 = .ok (.iinc 2 1, 3) := by decide +kernel
theorem dX1_greatest_30 : decode cX1_greatest 30 = .ok (.goto (-21), 3) := by decide +kernel
theorem dX1_greatest_33 : decode cX1_greatest 33 = .ok (.iload_n 1, 1) := by decide +kernel
theorem dX1_greatest_34 : decode cX1_greatest 34 = .ok (.ireturn, 1) := by decide +kernel
theorem dX1_least_0 : decode cX1_least 0 = .ok (.aload_n 0, 1) := by decide +kernel
theorem dX1_least_1 : decode cX1_least 1 = .ok (.getfield 9, 3) := by decide +kernel
theorem dX1_least_4 : decode cX1_least 4 = .ok (.iconst 0, 1) := by decide +kernel
theorem dX1_least_5 : decode cX1_least 5 = .ok (.iaload, 1) := by decide +kernel
theorem dX1_least_6 : decode cX1_least 6 = .ok (.istore_n 1, 1) := by decide +kernel
theorem dX1_least_7 : decode cX1_least 7 = .ok (.iconst 1, 1) := by decide +kernel
theorem dX1_least_8 : decode cX1_least 8 = .ok (.istore_n 2, 1) := by decide +kernel
theorem dX1_least_9 : decode cX1_least 9 = .ok (.iload_n 2, 1) := by decide +kernel
theorem dX1_least_10 : decode cX1_least 10 = .ok (.sipush 256, 3) := by decide +kernel
theorem dX1_least_13 : decode cX1_least 13 = .ok (.if_icmp .ge 20, 3) := by decide +kernel
theorem dX1_least_16 : decode cX1_least 16 = .ok (.iload_n 1, 1) := by decide +kernel
theorem dX1_least_17 : decode cX1_least 17 = .ok (.aload_n 0, 1) := by decide +kernel
theorem dX1_least_18 : decode cX1_least 18 = .ok (.getfield 9, 3) := by decide +kernel
theorem dX1_least_21 : decode cX1_least 21 = .ok (.iload_n 2, 1) := by decide +kernel
theorem dX1_least_22 : decode cX1_least 22 = .ok (.iaload, 1) := by decide +kernel
theorem dX1_least_23 : decode cX1_least 23 = .ok (.invokestatic 108, 3) := by decide +kernel
theorem dX1_least_26 : decode cX1_least 26 = .ok (.istore_n 1, 1) := by decide +kernel
theorem dX1_least_27 : decode cX1_least 27 = .ok (.iinc 2 1, 3) := by decide +kernel
theorem dX1_least_30 : decode cX1_least 30 = .ok (.goto (-21), 3) := by decide +kernel
theorem dX1_least_33 : decode cX1_least 33 = .ok (.iload_n 1, 1) := by decide +kernel
theorem dX1_least_34 : decode cX1_least 34 = .ok (.ireturn, 1) := by decide +kernel
theorem dX1_greatestDifference_0 : decode cX1_greatestDifference 0 = .ok (.iconst 0, 1) := by decide +kernel
theorem dX1_greatestDifference_1 : decode cX1_greatestDifference 1 = .ok (.istore_n 2, 1) := by decide +kernel
theorem dX1_greatestDifference_2 : decode cX1_greatestDifference 2 = .ok (.iconst 0, 1) := by decide +kernel
theorem dX1_greatestDifference_3 : decode cX1_greatestDifference 3 = .ok (.istore_n 3, 1) := by decide +kernel
theorem dX1_greatestDifference_4 : decode cX1_greatestDifference 4 = .ok (.iload_n 3, 1) := by decide +kernel
theorem dX1_greatestDifference_5 : decode cX1_greatestDifference 5 = .ok (.sipush 256, 3) := by decide +kernel
theorem dX1_greatestDifference_8 : decode cX1_greatestDifference 8 = .ok (.if_icmp .ge 30, 3) := by decide +kernel
theorem dX1_greatestDifference_11 : decode cX1_greatestDifference 11 = .ok (.iload_n 2, 1) := by decide +kernel
theorem dX1_greatestDifference_12 : decode cX1_greatestDifference 12 = .ok (.aload_n 0, 1) := by decide +kernel
theorem dX1_greatestDifference_13 : decode cX1_greatestDifference 13 = .ok (.getfield 9, 3) := by decide +kernel
theorem dX1_greatestDifference_16 : decode cX1_greatestDifference 16 = .ok (.iload_n 3, 1) := by decide +kernel
theorem dX1_greatestDifference_17 : decode cX1_greatestDifference 17 = .ok (.iaload, 1) := by decide +kernel
theorem dX1_greatestDifference_18 : decode cX1_greatestDifference 18 = .ok (.aload_n 1, 1) := by decide +kernel
theorem dX1_greatestDifference_19 : decode cX1_greatestDifference 19 = .ok (.getfield 9, 3) := by decide +kernel
theorem dX1_greatestDifference_22 : decode cX1_greatestDifference 22 = .ok (.iload_n 3, 1) := by decide +kernel
theorem dX1_greatestDifference_23 : decode cX1_greatestDifference 23 = .ok (.iaload, 1) := by decide +kernel
theorem dX1_greatestDifference_24 : decode cX1_greatestDifference 24 = .ok (.isub, 1) := by decide +kernel
theorem dX1_greatestDifference_25 : decode cX1_greatestDifference 25 = .ok (.invokestatic 119, 3) := by decide +kernel
theorem dX1_greatestDifference_28 : decode cX1_greatestDifference 28 = .ok (.invokestatic 46, 3) := by decide +kernel
theorem dX1_greatestDifference_31 : decode cX1_greatestDifference 31 = .ok (.istore_n 2, 1) := by decide +kernel
theorem dX1_greatestDifference_32 : decode cX1_greatestDifference 32 = .ok (.iinc 3 1, 3) := by decide +kernel
theorem dX1_greatestDifference_35 : decode cX1_greatestDifference 35 = .ok (.goto (-31), 3) := by decide +kernel
theorem dX1_greatestDifference_38 : decode cX1_greatestDifference 38 = .ok (.iload_n 2, 1) := by decide +kernel
theorem dX1_greatestDifference_39 : decode cX1_greatestDifference 39 = .ok (.ireturn, 1) := by decide +kernel
theorem dX2_init_0 : decode cX2_init 0 = .ok (.aload_n 0, 1) := by decide +kernel
theorem dX2_init_1 : decode cX2_init 1 = .ok (.invokespecial 3, 3) := by decide +kernel
theorem dX2_init_4 : decode cX2_init 4 = .ok (.aload_n 0, 1) := by decide +kernel
theorem dX2_init_5 : decode cX2_init 5 = .ok (.bipush 80, 2) := by decide +kernel
theorem dX2_init_7 : decode cX2_init 7 = .ok (.newarray .char, 2) := by decide +kernel
theorem dX2_init_9 : decode cX2_init 9 = .ok (.putfield 9, 3) := by decide +kernel
theorem dX2_init_12 : decode cX2_init 12 = .ok (.aload_n 0, 1) := by decide +kernel
theorem dX2_init_13 : decode cX2_init 13 = .ok (.iconst 0, 1) := by decide +kernel
theorem dX2_init_14 : decode cX2_init 14 = .ok (.putfield 15, 3) := by decide +kernel
theorem dX2_init_17 : decode cX2_init 17 = .ok (.aload_n 0, 1) := by decide +kernel
theorem dX2_init_18 : decode cX2_init 18 = .ok (.new 19, 3) := by decide +kernel
theorem dX2_init_21 : decode cX2_init 21 = .ok (.dup, 1) := by decide +kernel
theorem dX2_init_22 : decode cX2_init 22 = .ok (.invokespecial 21, 3) := by decide +kernel
theorem dX2_init_25 : decode cX2_init 25 = .ok (.putfield 22, 3) := by decide +kernel
theorem dX2_init_28 : decode cX2_init 28 = .ok (.aload_n 0, 1) := by decide +kernel
theorem dX2_init_29 : decode cX2_init 29 = .ok (.bipush 16, 2) := by decide +kernel
theorem dX2_init_31 : decode cX2_init 31 = .ok (.newarray .int, 2) := by decide +kernel
theorem dX2_init_33 : decode cX2_init 33 = .ok (.putfield 26, 3) := by decide +kernel
theorem dX2_init_36 : decode cX2_init 36 = .ok (.aload_n 0, 1) := by decide +kernel
theorem dX2_init_37 : decode cX2_init 37 = .ok (.bipush 16, 2) := by decide +kernel
theorem dX2_init_39 : decode cX2_init 39 = .ok (.newarray .int, 2) := by decide +kernel
theorem dX2_init_41 : decode cX2_init 41 = .ok (.putfield 30, 3) := by decide +kernel
theorem dX2_init_44 : decode cX2_init 44 = .ok (.aload_n 0, 1) := by decide +kernel
theorem dX2_init_45 : decode cX2_init 45 = .ok (.sipush 256, 3) := by decide +kernel
theorem dX2_init_48 : decode cX2_init 48 = .ok (.newarray .int, 2) := by decide +kernel
theorem dX2_init_50 : decode cX2_init 50 = .ok (.putfield 33, 3) := by decide +kernel
theorem dX2_init_53 : decode cX2_init 53 = .ok (.aload_n 0, 1) := by decide +kernel
theorem dX2_init_54 : decode cX2_init 54 = .ok (.iconst 0, 1) := by decide +kernel
theorem dX2_init_55 : decode cX2_init 55 = .ok (.putfield 36, 3) := by decide +kernel
theorem dX2_init_58 : decode cX2_init 58 = .ok (.aload_n 0, 1) := by decide +kernel
theorem dX2_init_59 : decode cX2_init 59 = .ok (.iconst 0, 1) := by decide +kernel
theorem dX2_init_60 : decode cX2_init 60 = .ok (.putfield 39, 3) := by decide +kernel
theorem dX2_init_63 : decode cX2_init 63 = .ok (.return_, 1) := by decide +kernel
theorem dX2_append_0 : decode cX2_append 0 = .ok (.aload_n 0, 1) := by decide +kernel
theorem dX2_append_1 : decode cX2_append 1 = .ok (.getfield 15, 3) := by decide +kernel
theorem dX2_append_4 : decode cX2_append 4 = .ok (.bipush 80, 2) := by decide +kernel
theorem dX2_append_6 : decode cX2_append 6 = .ok (.if_icmp .ge 23, 3) := by decide +kernel
theorem dX2_append_9 : decode cX2_append 9 = .ok (.aload_n 0, 1) := by decide +kernel
theorem dX2_append_10 : decode cX2_append 10 = .ok (.getfield 9, 3) := by decide +kernel
theorem dX2_append_13 : decode cX2_append 13 = .ok (.aload_n 0, 1) := by decide +kernel
theorem dX2_append_14 : decode cX2_append 14 = .ok (.getfield 15, 3) := by decide +kernel
theorem dX2_append_17 : decode cX2_append 17 = .ok (.iload_n 1, 1) := by decide +kernel
theorem dX2_append_18 : decode cX2_append 18 = .ok (.castore, 1) := by decide +kernel
theorem dX2_append_19 : decode cX2_append 19 = .ok (.aload_n 0, 1) := by decide +kernel
theorem dX2_append_20 : decode cX2_append 20 = .ok (.dup, 1) := by decide +kernel
theorem dX2_append_21 : decode cX2_append 21 = .ok (.getfield 15, 3) := by decide +kernel
theorem dX2_append_24 : decode cX2_append 24 = .ok (.iconst 1, 1) := by decide +kernel
theorem dX2_append_25 : decode cX2_append 25 = .ok (.iadd, 1) := by decide +kernel
theorem dX2_append_26 : decode cX2_append 26 = .ok (.putfield 15, 3) := by decide +kernel
theorem dX2_append_29 : decode cX2_append 29 = .ok (.return_, 1) := by decide +kernel
theorem dX2_read_0 : decode cX2_read 0 = .ok (.aload_n 0, 1) := by decide +kernel
theorem dX2_read_1 : decode cX2_read 1 = .ok (.iconst 0, 1) := by decide +kernel
theorem dX2_read_2 : decode cX2_read 2 = .ok (.putfield 36, 3) := by decide +kernel
theorem dX2_read_5 : decode cX2_read 5 = .ok (.aload_n 0, 1) := by decide +kernel
theorem dX2_read_6 : decode cX2_read 6 = .ok (.iconst 0, 1) := by decide +kernel
theorem dX2_read_7 : decode cX2_read 7 = .ok (.iconst 0, 1) := by decide +kernel
theorem dX2_read_8 : decode cX2_read 8 = .ok (.iconst 0, 1) := by decide +kernel
theorem dX2_read_9 : decode cX2_read 9 = .ok (.invokevirtual 42, 3) := by decide +kernel
theorem dX2_read_12 : decode cX2_read 12 = .ok (.ifCond .eq 18, 3) := by decide +kernel
theorem dX2_read_15 : decode cX2_read 15 = .ok (.aload_n 0, 1) := by decide +kernel
theorem dX2_read_16 : decode cX2_read 16 = .ok (.getfield 36, 3) := by decide +kernel
theorem dX2_read_19 : decode cX2_read 19 = .ok (.aload_n 0, 1) := by decide +kernel
theorem dX2_read_20 : decode cX2_read 20 = .ok (.getfield 15, 3) := by decide +kernel
theorem dX2_read_23 : decode cX2_read 23 = .ok (.if_icmp .ne 7, 3) := by decide +kernel
theorem dX2_read_26 : decode cX2_read 26 = .ok (.iconst 1, 1) := by decide +kernel
theorem dX2_read_27 : decode cX2_read 27 = .ok (.goto 4, 3) := by decide +kernel
theorem dX2_read_30 : decode cX2_read 30 = .ok (.iconst 0, 1) := by decide +kernel
theorem dX2_read_31 : decode cX2_read 31 = .ok (.ireturn, 1) := by decide +kernel
theorem dX2_readBlock_0 : decode cX2_readBlock 0 = .ok (.aload_n 0, 1) := by decide +kernel
theorem dX2_readBlock_1 : decode cX2_readBlock 1 = .ok (.bipush 48, 2) := by decide +kernel
theorem dX2_readBlock_3 : decode cX2_readBlock 3 = .ok (.invokevirtual 46, 3) := by decide +kernel
theorem dX2_readBlock_6 : decode cX2_readBlock 6 = .ok (.ifCond .eq 15, 3) := by decide +kernel
theorem dX2_readBlock_9 : decode cX2_readBlock 9 = .ok (.aload_n 0, 1) := by decide +kernel
theorem dX2_readBlock_10 : decode cX2_readBlock 10 = .ok (.getfield 22, 3) := by decide +kernel
theorem dX2_readBlock_13 : decode cX2_readBlock 13 = .ok (.iload_n 1, 1) := by decide +kernel
theorem dX2_readBlock_14 : decode cX2_readBlock 14 = .ok (.iload_n 2, 1) := by decide +kernel
theorem dX2_readBlock_15 : decode cX2_readBlock 15 = .ok (.iload_n 3, 1) := by decide +kernel
theorem dX2_readBlock_16 : decode cX2_readBlock 16 = .ok (.invokevirtual 50, 3) := by decide +kernel
theorem dX2_readBlock_19 : decode cX2_readBlock 19 = .ok (.iconst 1, 1) := by decide +kernel
theorem dX2_readBlock_20 : decode cX2_readBlock 20 = .ok (.ireturn, 1) := by decide +kernel
theorem dX2_readBlock_21 : decode cX2_readBlock 21 = .ok (.aload_n 0, 1) := by decide +kernel
theorem dX2_readBlock_22 : decode cX2_readBlock 22 = .ok (.bipush 100, 2) := by decide +kernel
theorem dX2_readBlock_24 : decode cX2_readBlock 24 = .ok (.invokevirtual 46, 3) := by decide +kernel
theorem dX2_readBlock_27 : decode cX2_readBlock 27 = .ok (.ifCond .eq 11, 3) := by decide +kernel
theorem dX2_readBlock_30 : decode cX2_readBlock 30 = .ok (.aload_n 0, 1) := by decide +kernel
theorem dX2_readBlock_31 : decode cX2_readBlock 31 = .ok (.iload_n 1, 1) := by decide +kernel
theorem dX2_readBlock_32 : decode cX2_readBlock 32 = .ok (.iload_n 2, 1) := by decide +kernel
theorem dX2_readBlock_33 : decode cX2_readBlock 33 = .ok (.iload_n 3, 1) := by decide +kernel
theorem dX2_readBlock_34 : decode cX2_readBlock 34 = .ok (.invokevirtual 54, 3) := by decide +kernel
theorem dX2_readBlock_37 : decode cX2_readBlock 37 = .ok (.ireturn, 1) := by decide +kernel
theorem dX2_readBlock_38 : decode cX2_readBlock 38 = .ok (.aload_n 0, 1) := by decide +kernel
theorem dX2_readBlock_39 : decode cX2_readBlock 39 = .ok (.bipush 117, 2) := by decide +kernel
theorem dX2_readBlock_41 : decode cX2_readBlock 41 = .ok (.invokevirtual 46, 3) := by decide +kernel
theorem dX2_readBlock_44 : decode cX2_readBlock 44 = .ok (.ifCond .eq 11, 3) := by decide +kernel
theorem dX2_readBlock_47 : decode cX2_readBlock 47 = .ok (.aload_n 0, 1) := by decide +kernel
theorem dX2_readBlock_48 : decode cX2_readBlock 48 = .ok (.iload_n 1, 1) := by decide +kernel
theorem dX2_readBlock_49 : decode cX2_readBlock 49 = .ok (.iload_n 2, 1) := by decide +kernel
theorem dX2_readBlock_50 : decode cX2_readBlock 50 = .ok (.iload_n 3, 1) := by decide +kernel
theorem dX2_readBlock_51 : decode cX2_readBlock 51 = .ok (.invokevirtual 57, 3) := by decide +kernel
theorem dX2_readBlock_54 : decode cX2_readBlock 54 = .ok (.ireturn, 1) := by decide +kernel
theorem dX2_readBlock_55 : decode cX2_readBlock 55 = .ok (.aload_n 0, 1) := by decide +kernel
theorem dX2_readBlock_56 : decode cX2_readBlock 56 = .ok (.bipush 102, 2) := by decide +kernel
theorem dX2_readBlock_58 : decode cX2_readBlock 58 = .ok (.invokevirtual 46, 3) := by decide +kernel
theorem dX2_readBlock_61 : decode cX2_readBlock 61 = .ok (.ifCond .eq 11, 3) := by decide +kernel
theorem dX2_readBlock_64 : decode cX2_readBlock 64 = .ok (.aload_n 0, 1) := by decide +kernel
theorem dX2_readBlock_65 : decode cX2_readBlock 65 = .ok (.iload_n 1, 1) := by decide +kernel
theorem dX2_readBlock_66 : decode cX2_readBlock 66 = .ok (.iload_n 2, 1) := by decide +kernel
theorem dX2_readBlock_67 : decode cX2_readBlock 67 = .ok (.iload_n 3, 1) := by decide +kernel
theorem dX2_readBlock_68 : decode cX2_readBlock 68 = .ok (.invokevirtual 60, 3) := by decide +kernel
theorem dX2_readBlock_71 : decode cX2_readBlock 71 = .ok (.ireturn, 1) := by decide +kernel
theorem dX2_readBlock_72 : decode cX2_readBlock 72 = .ok (.iload_n 1, 1) := by decide +kernel
theorem dX2_readBlock_73 : decode cX2_readBlock 73 = .ok (.iconst 3, 1) := by decide +kernel
theorem dX2_readBlock_74 : decode cX2_readBlock 74 = .ok (.if_icmp .ge 26, 3) := by decide +kernel
theorem dX2_readBlock_77 : decode cX2_readBlock 77 = .ok (.aload_n 0, 1) := by decide +kernel
theorem dX2_readBlock_78 : decode cX2_readBlock 78 = .ok (.bipush 40, 2) := by decide +kernel
theorem dX2_readBlock_80 : decode cX2_readBlock 80 = .ok (.invokevirtual 46, 3) := by decide +kernel
theorem dX2_readBlock_83 : decode cX2_readBlock 83 = .ok (.ifCond .eq 17, 3) := by decide +kernel
theorem dX2_readBlock_86 : decode cX2_readBlock 86 = .ok (.aload_n 0, 1) := by decide +kernel
theorem dX2_readBlock_87 : decode cX2_readBlock 87 = .ok (.iload_n 1, 1) := by decide +kernel
theorem dX2_readBlock_88 : decode cX2_readBlock 88 = .ok (.iload_n 2, 1) := by decide +kernel
theorem dX2_readBlock_89 : decode cX2_readBlock 89 = .ok (.iload_n 3, 1) := by decide +kernel
theorem dX2_readBlock_90 : decode cX2_readBlock 90 = .ok (.invokevirtual 63, 3) := by decide +kernel
theorem dX2_readBlock_93 : decode cX2_readBlock 93 = .ok (.ifCond .eq 7, 3) := by decide +kernel
theorem dX2_readBlock_96 : decode cX2_readBlock 96 = .ok (.iconst 1, 1) := by decide +kernel
theorem dX2_readBlock_97 : decode cX2_readBlock 97 = .ok (.goto 4, 3) := by decide +kernel
theorem dX2_readBlock_100 : decode cX2_readBlock 100 = .ok (.iconst 0, 1) := by decide +kernel
theorem dX2_readBlock_101 : decode cX2_readBlock 101 = .ok (.ireturn, 1) := by decide +kernel
theorem dX2_readParts_0 : decode cX2_readParts 0 = .ok (.aload_n 0, 1) := by decide +kernel
theorem dX2_readParts_1 : decode cX2_readParts 1 = .ok (.getfield 22, 3) := by decide +kernel
theorem dX2_readParts_4 : decode cX2_readParts 4 = .ok (.iload_n 1, 1) := by decide +kernel
theorem dX2_readParts_5 : decode cX2_readParts 5 = .ok (.iload_n 2, 1) := by decide +kernel
theorem dX2_readParts_6 : decode cX2_readParts 6 = .ok (.iload_n 3, 1) := by decide +kernel
theorem dX2_readParts_7 : decode cX2_readParts 7 = .ok (.iconst 3, 1) := by decide +kernel
theorem dX2_readParts_8 : decode cX2_readParts 8 = .ok (.invokevirtual 66, 3) := by decide +kernel
theorem dX2_readParts_11 : decode cX2_readParts 11 = .ok (.iconst 0, 1) := by decide +kernel
theorem dX2_readParts_12 : decode cX2_readParts 12 = .ok (.istore 4, 2) := by decide +kernel
theorem dX2_readParts_14 : decode cX2_readParts 14 = .ok (.iload 4, 2) := by decide +kernel
theorem dX2_readParts_16 : decode cX2_readParts 16 = .ok (.iconst 4, 1) := by decide +kernel
theorem dX2_readParts_17 : decode cX2_readParts 17 = .ok (.if_icmp .ge 43, 3) := by decide +kernel
theorem dX2_readParts_20 : decode cX2_readParts 20 = .ok (.iload_n 1, 1) := by decide +kernel
theorem dX2_readParts_21 : decode cX2_readParts 21 = .ok (.iload_n 2, 1) := by decide +kernel
theorem dX2_readParts_22 : decode cX2_readParts 22 = .ok (.iload 4, 2) := by decide +kernel
theorem dX2_readParts_24 : decode cX2_readParts 24 = .ok (.invokestatic 70, 3) := by decide +kernel
theorem dX2_readParts_27 : decode cX2_readParts 27 = .ok (.istore 5, 2) := by decide +kernel
theorem dX2_readParts_29 : decode cX2_readParts 29 = .ok (.iload_n 1, 1) := by decide +kernel
theorem dX2_readParts_30 : decode cX2_readParts 30 = .ok (.iload_n 3, 1) := by decide +kernel
theorem dX2_readParts_31 : decode cX2_readParts 31 = .ok (.iload 4, 2) := by decide +kernel
theorem dX2_readParts_33 : decode cX2_readParts 33 = .ok (.invokestatic 74, 3) := by decide +kernel
theorem dX2_readParts_36 : decode cX2_readParts 36 = .ok (.istore 6, 2) := by decide +kernel
theorem dX2_readParts_38 : decode cX2_readParts 38 = .ok (.aload_n 0, 1) := by decide +kernel
theorem dX2_readParts_39 : decode cX2_readParts 39 = .ok (.iload_n 1, 1) := by decide +kernel
theorem dX2_readParts_40 : decode cX2_readParts 40 = .ok (.iconst 1, 1) := by decide +kernel
theorem dX2_readParts_41 : decode cX2_readParts 41 = .ok (.iadd, 1) := by decide +kernel
theorem dX2_readParts_42 : decode cX2_readParts 42 = .ok (.iload 5, 2) := by decide +kernel
theorem dX2_readParts_44 : decode cX2_readParts 44 = .ok (.iload 6, 2) := by decide +kernel
theorem dX2_readParts_46 : decode cX2_readParts 46 = .ok (.invokevirtual 42, 3) := by decide +kernel
theorem dX2_readParts_49 : decode cX2_readParts 49 = .ok (.ifCond .ne 5, 3) := by decide +kernel
theorem dX2_readParts_52 : decode cX2_readParts 52 = .ok (.iconst 0, 1) := by decide +kernel
theorem dX2_readParts_53 : decode cX2_readParts 53 = .ok (.ireturn, 1) := by decide +kernel
theorem dX2_readParts_54 : decode cX2_readParts 54 = .ok (.iinc 4 1, 3) := by decide +kernel
theorem dX2_readParts_57 : decode cX2_readParts 57 = .ok (.goto (-43), 3) := by decide +kernel
theorem dX2_readParts_60 : decode cX2_readParts 60 = .ok (.aload_n 0, 1) := by decide +kernel
theorem dX2_readParts_61 : decode cX2_readParts 61 = .ok (.bipush 41, 2) := by decide +kernel
theorem dX2_readParts_63 : decode cX2_readParts 63 = .ok (.invokevirtual 46, 3) := by decide +kernel
theorem dX2_readParts_66 : decode cX2_readParts 66 = .ok (.ireturn, 1) := by decide +kernel
theorem dX2_readSame_0 : decode cX2_readSame 0 = .ok (.aload_n 0, 1) := by decide +kernel
theorem dX2_readSame_1 : decode cX2_readSame 1 = .ok (.invokevirtual 77, 3) := by decide +kernel
theorem dX2_readSame_4 : decode cX2_readSame 4 = .ok (.ifCond .ne 5, 3) := by decide +kernel
theorem dX2_readSame_7 : decode cX2_readSame 7 = .ok (.iconst 0, 1) := by decide +kernel
theorem dX2_readSame_8 : decode cX2_readSame 8 = .ok (.ireturn, 1) := by decide +kernel
theorem dX2_readSame_9 : decode cX2_readSame 9 = .ok (.iconst 0, 1) := by decide +kernel
theorem dX2_readSame_10 : decode cX2_readSame 10 = .ok (.istore 4, 2) := by decide +kernel
theorem dX2_readSame_12 : decode cX2_readSame 12 = .ok (.iload 4, 2) := by decide +kernel
theorem dX2_readSame_14 : decode cX2_readSame 14 = .ok (.bipush 16, 2) := by decide +kernel
theorem dX2_readSame_16 : decode cX2_readSame 16 = .ok (.if_icmp .ge 28, 3) := by decide +kernel
theorem dX2_readSame_19 : decode cX2_readSame 19 = .ok (.aload_n 0, 1) := by decide +kernel
theorem dX2_readSame_20 : decode cX2_readSame 20 = .ok (.getfield 26, 3) := by decide +kernel
theorem dX2_readSame_23 : decode cX2_readSame 23 = .ok (.iload 4, 2) := by decide +kernel
theorem dX2_readSame_25 : decode cX2_readSame 25 = .ok (.aload_n 0, 1) := by decide +kernel
theorem dX2_readSame_26 : decode cX2_readSame 26 = .ok (.getfield 39, 3) := by decide +kernel
theorem dX2_readSame_29 : decode cX2_readSame 29 = .ok (.iastore, 1) := by decide +kernel
theorem dX2_readSame_30 : decode cX2_readSame 30 = .ok (.aload_n 0, 1) := by decide +kernel
theorem dX2_readSame_31 : decode cX2_readSame 31 = .ok (.getfield 30, 3) := by decide +kernel
theorem dX2_readSame_34 : decode cX2_readSame 34 = .ok (.iload 4, 2) := by decide +kernel
theorem dX2_readSame_36 : decode cX2_readSame 36 = .ok (.iconst 1, 1) := by decide +kernel
theorem dX2_readSame_37 : decode cX2_readSame 37 = .ok (.iastore, 1) := by decide +kernel
theorem dX2_readSame_38 : decode cX2_readSame 38 = .ok (.iinc 4 1, 3) := by decide +kernel
theorem dX2_readSame_41 : decode cX2_readSame 41 = .ok (.goto (-29), 3) := by decide +kernel
theorem dX2_readSame_44 : decode cX2_readSame 44 = .ok (.aload_n 0, 1) := by decide +kernel
theorem dX2_readSame_45 : decode cX2_readSame 45 = .ok (.getfield 22, 3) := by decide +kernel
theorem dX2_readSame_48 : decode cX2_readSame 48 = .ok (.iload_n 1, 1) := by decide +kernel
theorem dX2_readSame_49 : decode cX2_readSame 49 = .ok (.iload_n 2, 1) := by decide +kernel
theorem dX2_readSame_50 : decode cX2_readSame 50 = .ok (.iload_n 3, 1) := by decide +kernel
theorem dX2_readSame_51 : decode cX2_readSame 51 = .ok (.aload_n 0, 1) := by decide +kernel
theorem dX2_readSame_52 : decode cX2_readSame 52 = .ok (.getfield 26, 3) := by decide +kernel
theorem dX2_readSame_55 : decode cX2_readSame 55 = .ok (.aload_n 0, 1) := by decide +kernel
theorem dX2_readSame_56 : decode cX2_readSame 56 = .ok (.getfield 30, 3) := by decide +kernel
theorem dX2_readSame_59 : decode cX2_readSame 59 = .ok (.invokevirtual 81, 3) := by decide +kernel
theorem dX2_readSame_62 : decode cX2_readSame 62 = .ok (.iconst 1, 1) := by decide +kernel
theorem dX2_readSame_63 : decode cX2_readSame 63 = .ok (.ireturn, 1) := by decide +kernel
theorem dX2_readProduct_0 : decode cX2_readProduct 0 = .ok (.iload_n 1, 1) := by decide +kernel
theorem dX2_readProduct_1 : decode cX2_readProduct 1 = .ok (.invokestatic 85, 3) := by decide +kernel
theorem dX2_readProduct_4 : decode cX2_readProduct 4 = .ok (.istore 4, 2) := by decide +kernel
theorem dX2_readProduct_6 : decode cX2_readProduct 6 = .ok (.aload_n 0, 1) := by decide +kernel
theorem dX2_readProduct_7 : decode cX2_readProduct 7 = .ok (.aload_n 0, 1) := by decide +kernel
theorem dX2_readProduct_8 : decode cX2_readProduct 8 = .ok (.getfield 26, 3) := by decide +kernel
theorem dX2_readProduct_11 : decode cX2_readProduct 11 = .ok (.iload 4, 2) := by decide +kernel
theorem dX2_readProduct_13 : decode cX2_readProduct 13 = .ok (.invokevirtual 89, 3) := by decide +kernel
theorem dX2_readProduct_16 : decode cX2_readProduct 16 = .ok (.ifCond .eq 25, 3) := by decide +kernel
theorem dX2_readProduct_19 : decode cX2_readProduct 19 = .ok (.aload_n 0, 1) := by decide +kernel
theorem dX2_readProduct_20 : decode cX2_readProduct 20 = .ok (.bipush 118, 2) := by decide +kernel
theorem dX2_readProduct_22 : decode cX2_readProduct 22 = .ok (.invokevirtual 46, 3) := by decide +kernel
theorem dX2_readProduct_25 : decode cX2_readProduct 25 = .ok (.ifCond .eq 16, 3) := by decide +kernel
theorem dX2_readProduct_28 : decode cX2_readProduct 28 = .ok (.aload_n 0, 1) := by decide +kernel
theorem dX2_readProduct_29 : decode cX2_readProduct 29 = .ok (.aload_n 0, 1) := by decide +kernel
theorem dX2_readProduct_30 : decode cX2_readProduct 30 = .ok (.getfield 30, 3) := by decide +kernel
theorem dX2_readProduct_33 : decode cX2_readProduct 33 = .ok (.iload 4, 2) := by decide +kernel
theorem dX2_readProduct_35 : decode cX2_readProduct 35 = .ok (.invokevirtual 89, 3) := by decide +kernel
theorem dX2_readProduct_38 : decode cX2_readProduct 38 = .ok (.ifCond .ne 5, 3) := by decide +kernel
theorem dX2_readProduct_41 : decode cX2_readProduct 41 = .ok (.iconst 0, 1) := by decide +kernel
theorem dX2_readProduct_42 : decode cX2_readProduct 42 = .ok (.ireturn, 1) := by decide +kernel
theorem dX2_readProduct_43 : decode cX2_readProduct 43 = .ok (.aload_n 0, 1) := by decide +kernel
theorem dX2_readProduct_44 : decode cX2_readProduct 44 = .ok (.getfield 22, 3) := by decide +kernel
theorem dX2_readProduct_47 : decode cX2_readProduct 47 = .ok (.iload_n 1, 1) := by decide +kernel
theorem dX2_readProduct_48 : decode cX2_readProduct 48 = .ok (.iload_n 2, 1) := by decide +kernel
theorem dX2_readProduct_49 : decode cX2_readProduct 49 = .ok (.iload_n 3, 1) := by decide +kernel
theorem dX2_readProduct_50 : decode cX2_readProduct 50 = .ok (.aload_n 0, 1) := by decide +kernel
theorem dX2_readProduct_51 : decode cX2_readProduct 51 = .ok (.getfield 26, 3) := by decide +kernel
theorem dX2_readProduct_54 : decode cX2_readProduct 54 = .ok (.aload_n 0, 1) := by decide +kernel
theorem dX2_readProduct_55 : decode cX2_readProduct 55 = .ok (.getfield 30, 3) := by decide +kernel
theorem dX2_readProduct_58 : decode cX2_readProduct 58 = .ok (.invokevirtual 81, 3) := by decide +kernel
theorem dX2_readProduct_61 : decode cX2_readProduct 61 = .ok (.iconst 1, 1) := by decide +kernel
theorem dX2_readProduct_62 : decode cX2_readProduct 62 = .ok (.ireturn, 1) := by decide +kernel
theorem dX2_readFull_0 : decode cX2_readFull 0 = .ok (.iload_n 1, 1) := by decide +kernel
theorem dX2_readFull_1 : decode cX2_readFull 1 = .ok (.invokestatic 85, 3) := by decide +kernel
theorem dX2_readFull_4 : decode cX2_readFull 4 = .ok (.istore 4, 2) := by decide +kernel
theorem dX2_readFull_6 : decode cX2_readFull 6 = .ok (.aload_n 0, 1) := by decide +kernel
theorem dX2_readFull_7 : decode cX2_readFull 7 = .ok (.aload_n 0, 1) := by decide +kernel
theorem dX2_readFull_8 : decode cX2_readFull 8 = .ok (.getfield 33, 3) := by decide +kernel
theorem dX2_readFull_11 : decode cX2_readFull 11 = .ok (.iload 4, 2) := by decide +kernel
theorem dX2_readFull_13 : decode cX2_readFull 13 = .ok (.iload 4, 2) := by decide +kernel
theorem dX2_readFull_15 : decode cX2_readFull 15 = .ok (.imul, 1) := by decide +kernel
theorem dX2_readFull_16 : decode cX2_readFull 16 = .ok (.invokevirtual 89, 3) := by decide +kernel
theorem dX2_readFull_19 : decode cX2_readFull 19 = .ok (.ifCond .ne 5, 3) := by decide +kernel
theorem dX2_readFull_22 : decode cX2_readFull 22 = .ok (.iconst 0, 1) := by decide +kernel
theorem dX2_readFull_23 : decode cX2_readFull 23 = .ok (.ireturn, 1) := by decide +kernel
theorem dX2_readFull_24 : decode cX2_readFull 24 = .ok (.aload_n 0, 1) := by decide +kernel
theorem dX2_readFull_25 : decode cX2_readFull 25 = .ok (.getfield 22, 3) := by decide +kernel
theorem dX2_readFull_28 : decode cX2_readFull 28 = .ok (.iload_n 1, 1) := by decide +kernel
theorem dX2_readFull_29 : decode cX2_readFull 29 = .ok (.iload_n 2, 1) := by decide +kernel
theorem dX2_readFull_30 : decode cX2_readFull 30 = .ok (.iload_n 3, 1) := by decide +kernel
theorem dX2_readFull_31 : decode cX2_readFull 31 = .ok (.aload_n 0, 1) := by decide +kernel
theorem dX2_readFull_32 : decode cX2_readFull 32 = .ok (.getfield 33, 3) := by decide +kernel
theorem dX2_readFull_35 : decode cX2_readFull 35 = .ok (.invokevirtual 93, 3) := by decide +kernel
theorem dX2_readFull_38 : decode cX2_readFull 38 = .ok (.iconst 1, 1) := by decide +kernel
theorem dX2_readFull_39 : decode cX2_readFull 39 = .ok (.ireturn, 1) := by decide +kernel
theorem dX2_readValues_0 : decode cX2_readValues 0 = .ok (.iload_n 2, 1) := by decide +kernel
theorem dX2_readValues_1 : decode cX2_readValues 1 = .ok (.aload_n 1, 1) := by decide +kernel
theorem dX2_readValues_2 : decode cX2_readValues 2 = .ok (.arraylength, 1) := by decide +kernel
theorem dX2_readValues_3 : decode cX2_readValues 3 = .ok (.invokestatic 97, 3) := by decide +kernel
theorem dX2_readValues_6 : decode cX2_readValues 6 = .ok (.istore_n 3, 1) := by decide +kernel
theorem dX2_readValues_7 : decode cX2_readValues 7 = .ok (.iconst 0, 1) := by decide +kernel
theorem dX2_readValues_8 : decode cX2_readValues 8 = .ok (.istore 4, 2) := by decide +kernel
theorem dX2_readValues_10 : decode cX2_readValues 10 = .ok (.iconst 1, 1) := by decide +kernel
theorem dX2_readValues_11 : decode cX2_readValues 11 = .ok (.istore 5, 2) := by decide +kernel
theorem dX2_readValues_13 : decode cX2_readValues 13 = .ok (.iconst 0, 1) := by decide +kernel
theorem dX2_readValues_14 : decode cX2_readValues 14 = .ok (.istore 6, 2) := by decide +kernel
theorem dX2_readValues_16 : decode cX2_readValues 16 = .ok (.iload 5, 2) := by decide +kernel
theorem dX2_readValues_18 : decode cX2_readValues 18 = .ok (.ifCond .eq 50, 3) := by decide +kernel
theorem dX2_readValues_21 : decode cX2_readValues 21 = .ok (.iload 6, 2) := by decide +kernel
theorem dX2_readValues_23 : decode cX2_readValues 23 = .ok (.bipush 80, 2) := by decide +kernel
theorem dX2_readValues_25 : decode cX2_readValues 25 = .ok (.if_icmp .ge 43, 3) := by decide +kernel
theorem dX2_readValues_28 : decode cX2_readValues 28 = .ok (.aload_n 0, 1) := by decide +kernel
theorem dX2_readValues_29 : decode cX2_readValues 29 = .ok (.invokevirtual 77, 3) := by decide +kernel
theorem dX2_readValues_32 : decode cX2_readValues 32 = .ok (.ifCond .ne 5, 3) := by decide +kernel
theorem dX2_readValues_35 : decode cX2_readValues 35 = .ok (.iconst 0, 1) := by decide +kernel
theorem dX2_readValues_36 : decode cX2_readValues 36 = .ok (.ireturn, 1) := by decide +kernel
theorem dX2_readValues_37 : decode cX2_readValues 37 = .ok (.iload 4, 2) := by decide +kernel
theorem dX2_readValues_39 : decode cX2_readValues 39 = .ok (.iload_n 3, 1) := by decide +kernel
theorem dX2_readValues_40 : decode cX2_readValues 40 = .ok (.if_icmp .ge 14, 3) := by decide +kernel
theorem dX2_readValues_43 : decode cX2_readValues 43 = .ok (.aload_n 1, 1) := by decide +kernel
theorem dX2_readValues_44 : decode cX2_readValues 44 = .ok (.iload 4, 2) := by decide +kernel
theorem dX2_readValues_46 : decode cX2_readValues 46 = .ok (.aload_n 0, 1) := by decide +kernel
theorem dX2_readValues_47 : decode cX2_readValues 47 = .ok (.getfield 39, 3) := by decide +kernel
theorem dX2_readValues_50 : decode cX2_readValues 50 = .ok (.iastore, 1) := by decide +kernel
theorem dX2_readValues_51 : decode cX2_readValues 51 = .ok (.iinc 4 1, 3) := by decide +kernel
theorem dX2_readValues_54 : decode cX2_readValues 54 = .ok (.aload_n 0, 1) := by decide +kernel
theorem dX2_readValues_55 : decode cX2_readValues 55 = .ok (.bipush 44, 2) := by decide +kernel
theorem dX2_readValues_57 : decode cX2_readValues 57 = .ok (.invokevirtual 46, 3) := by decide +kernel
theorem dX2_readValues_60 : decode cX2_readValues 60 = .ok (.istore 5, 2) := by decide +kernel
theorem dX2_readValues_62 : decode cX2_readValues 62 = .ok (.iinc 6 1, 3) := by decide +kernel
theorem dX2_readValues_65 : decode cX2_readValues 65 = .ok (.goto (-49), 3) := by decide +kernel
theorem dX2_readValues_68 : decode cX2_readValues 68 = .ok (.iload 4, 2) := by decide +kernel
theorem dX2_readValues_70 : decode cX2_readValues 70 = .ok (.istore 6, 2) := by decide +kernel
theorem dX2_readValues_72 : decode cX2_readValues 72 = .ok (.iload 6, 2) := by decide +kernel
theorem dX2_readValues_74 : decode cX2_readValues 74 = .ok (.iload_n 3, 1) := by decide +kernel
theorem dX2_readValues_75 : decode cX2_readValues 75 = .ok (.if_icmp .ge 17, 3) := by decide +kernel
theorem dX2_readValues_78 : decode cX2_readValues 78 = .ok (.aload_n 1, 1) := by decide +kernel
theorem dX2_readValues_79 : decode cX2_readValues 79 = .ok (.iload 6, 2) := by decide +kernel
theorem dX2_readValues_81 : decode cX2_readValues 81 = .ok (.aload_n 0, 1) := by decide +kernel
theorem dX2_readValues_82 : decode cX2_readValues 82 = .ok (.getfield 39, 3) := by decide +kernel
theorem dX2_readValues_85 : decode cX2_readValues 85 = .ok (.iastore, 1) := by decide +kernel
theorem dX2_readValues_86 : decode cX2_readValues 86 = .ok (.iinc 6 1, 3) := by decide +kernel
theorem dX2_readValues_89 : decode cX2_readValues 89 = .ok (.goto (-17), 3) := by decide +kernel
theorem dX2_readValues_92 : decode cX2_readValues 92 = .ok (.iconst 1, 1) := by decide +kernel
theorem dX2_readValues_93 : decode cX2_readValues 93 = .ok (.ireturn, 1) := by decide +kernel
theorem dX2_readValue_0 : decode cX2_readValue 0 = .ok (.aload_n 0, 1) := by decide +kernel
theorem dX2_readValue_1 : decode cX2_readValue 1 = .ok (.bipush 45, 2) := by decide +kernel
theorem dX2_readValue_3 : decode cX2_readValue 3 = .ok (.invokevirtual 46, 3) := by decide +kernel
theorem dX2_readValue_6 : decode cX2_readValue 6 = .ok (.istore_n 1, 1) := by decide +kernel
theorem dX2_readValue_7 : decode cX2_readValue 7 = .ok (.aload_n 0, 1) := by decide +kernel
theorem dX2_readValue_8 : decode cX2_readValue 8 = .ok (.iconst 0, 1) := by decide +kernel
theorem dX2_readValue_9 : decode cX2_readValue 9 = .ok (.putfield 39, 3) := by decide +kernel
theorem dX2_readValue_12 : decode cX2_readValue 12 = .ok (.aload_n 0, 1) := by decide +kernel
theorem dX2_readValue_13 : decode cX2_readValue 13 = .ok (.bipush 48, 2) := by decide +kernel
theorem dX2_readValue_15 : decode cX2_readValue 15 = .ok (.invokevirtual 46, 3) := by decide +kernel
theorem dX2_readValue_18 : decode cX2_readValue 18 = .ok (.ifCond .eq 5, 3) := by decide +kernel
theorem dX2_readValue_21 : decode cX2_readValue 21 = .ok (.iconst 1, 1) := by decide +kernel
theorem dX2_readValue_22 : decode cX2_readValue 22 = .ok (.ireturn, 1) := by decide +kernel
theorem dX2_readValue_23 : decode cX2_readValue 23 = .ok (.aload_n 0, 1) := by decide +kernel
theorem dX2_readValue_24 : decode cX2_readValue 24 = .ok (.invokevirtual 103, 3) := by decide +kernel
theorem dX2_readValue_27 : decode cX2_readValue 27 = .ok (.ifCond .ge 5, 3) := by decide +kernel
theorem dX2_readValue_30 : decode cX2_readValue 30 = .ok (.iconst 0, 1) := by decide +kernel
theorem dX2_readValue_31 : decode cX2_readValue 31 = .ok (.ireturn, 1) := by decide +kernel
theorem dX2_readValue_32 : decode cX2_readValue 32 = .ok (.iconst 0, 1) := by decide +kernel
theorem dX2_readValue_33 : decode cX2_readValue 33 = .ok (.istore_n 2, 1) := by decide +kernel
theorem dX2_readValue_34 : decode cX2_readValue 34 = .ok (.aload_n 0, 1) := by decide +kernel
theorem dX2_readValue_35 : decode cX2_readValue 35 = .ok (.invokevirtual 103, 3) := by decide +kernel
theorem dX2_readValue_38 : decode cX2_readValue 38 = .ok (.ifCond .lt 53, 3) := by decide +kernel
theorem dX2_readValue_41 : decode cX2_readValue 41 = .ok (.iload_n 2, 1) := by decide +kernel
theorem dX2_readValue_42 : decode cX2_readValue 42 = .ok (.bipush 80, 2) := by decide +kernel
theorem dX2_readValue_44 : decode cX2_readValue 44 = .ok (.if_icmp .ge 47, 3) := by decide +kernel
theorem dX2_readValue_47 : decode cX2_readValue 47 = .ok (.aload_n 0, 1) := by decide +kernel
theorem dX2_readValue_48 : decode cX2_readValue 48 = .ok (.aload_n 0, 1) := by decide +kernel
theorem dX2_readValue_49 : decode cX2_readValue 49 = .ok (.getfield 39, 3) := by decide +kernel
theorem dX2_readValue_52 : decode cX2_readValue 52 = .ok (.bipush 10, 2) := by decide +kernel
theorem dX2_readValue_54 : decode cX2_readValue 54 = .ok (.imul, 1) := by decide +kernel
theorem dX2_readValue_55 : decode cX2_readValue 55 = .ok (.aload_n 0, 1) := by decide +kernel
theorem dX2_readValue_56 : decode cX2_readValue 56 = .ok (.invokevirtual 103, 3) := by decide +kernel
theorem dX2_readValue_59 : decode cX2_readValue 59 = .ok (.iadd, 1) := by decide +kernel
theorem dX2_readValue_60 : decode cX2_readValue 60 = .ok (.putfield 39, 3) := by decide +kernel
theorem dX2_readValue_63 : decode cX2_readValue 63 = .ok (.aload_n 0, 1) := by decide +kernel
theorem dX2_readValue_64 : decode cX2_readValue 64 = .ok (.getfield 39, 3) := by decide +kernel
theorem dX2_readValue_67 : decode cX2_readValue 67 = .ok (.sipush 999, 3) := by decide +kernel
theorem dX2_readValue_70 : decode cX2_readValue 70 = .ok (.if_icmp .le 5, 3) := by decide +kernel
theorem dX2_readValue_73 : decode cX2_readValue 73 = .ok (.iconst 0, 1) := by decide +kernel
theorem dX2_readValue_74 : decode cX2_readValue 74 = .ok (.ireturn, 1) := by decide +kernel
theorem dX2_readValue_75 : decode cX2_readValue 75 = .ok (.aload_n 0, 1) := by decide +kernel
theorem dX2_readValue_76 : decode cX2_readValue 76 = .ok (.dup, 1) := by decide +kernel
theorem dX2_readValue_77 : decode cX2_readValue 77 = .ok (.getfield 36, 3) := by decide +kernel
theorem dX2_readValue_80 : decode cX2_readValue 80 = .ok (.iconst 1, 1) := by decide +kernel
theorem dX2_readValue_81 : decode cX2_readValue 81 = .ok (.iadd, 1) := by decide +kernel
theorem dX2_readValue_82 : decode cX2_readValue 82 = .ok (.putfield 36, 3) := by decide +kernel
theorem dX2_readValue_85 : decode cX2_readValue 85 = .ok (.iinc 2 1, 3) := by decide +kernel
theorem dX2_readValue_88 : decode cX2_readValue 88 = .ok (.goto (-54), 3) := by decide +kernel
theorem dX2_readValue_91 : decode cX2_readValue 91 = .ok (.aload_n 0, 1) := by decide +kernel
theorem dX2_readValue_92 : decode cX2_readValue 92 = .ok (.iload_n 1, 1) := by decide +kernel
theorem dX2_readValue_93 : decode cX2_readValue 93 = .ok (.ifCond .eq 11, 3) := by decide +kernel
theorem dX2_readValue_96 : decode cX2_readValue 96 = .ok (.aload_n 0, 1) := by decide +kernel
theorem dX2_readValue_97 : decode cX2_readValue 97 = .ok (.getfield 39, 3) := by decide +kernel
theorem dX2_readValue_100 : decode cX2_readValue 100 = .ok (.ineg, 1) := by decide +kernel
theorem dX2_readValue_101 : decode cX2_readValue 101 = .ok (.goto 7, 3) := by decide +kernel
theorem dX2_readValue_104 : decode cX2_readValue 104 = .ok (.aload_n 0, 1) := by decide +kernel
theorem dX2_readValue_105 : decode cX2_readValue 105 = .ok (.getfield 39, 3) := by decide +kernel
theorem dX2_readValue_108 : decode cX2_readValue 108 = .ok (.putfield 39, 3) := by decide +kernel
theorem dX2_readValue_111 : decode cX2_readValue 111 = .ok (.iconst 1, 1) := by decide +kernel
theorem dX2_readValue_112 : decode cX2_readValue 112 = .ok (.ireturn, 1) := by decide +kernel
theorem dX2_passes_0 : decode cX2_passes 0 = .ok (.aload_n 0, 1) := by decide +kernel
theorem dX2_passes_1 : decode cX2_passes 1 = .ok (.getfield 36, 3) := by decide +kernel
theorem dX2_passes_4 : decode cX2_passes 4 = .ok (.aload_n 0, 1) := by decide +kernel
theorem dX2_passes_5 : decode cX2_passes 5 = .ok (.getfield 15, 3) := by decide +kernel
theorem dX2_passes_8 : decode cX2_passes 8 = .ok (.if_icmp .ge 25, 3) := by decide +kernel
theorem dX2_passes_11 : decode cX2_passes 11 = .ok (.aload_n 0, 1) := by decide +kernel
theorem dX2_passes_12 : decode cX2_passes 12 = .ok (.getfield 36, 3) := by decide +kernel
theorem dX2_passes_15 : decode cX2_passes 15 = .ok (.bipush 80, 2) := by decide +kernel
theorem dX2_passes_17 : decode cX2_passes 17 = .ok (.if_icmp .ge 16, 3) := by decide +kernel
theorem dX2_passes_20 : decode cX2_passes 20 = .ok (.aload_n 0, 1) := by decide +kernel
theorem dX2_passes_21 : decode cX2_passes 21 = .ok (.getfield 9, 3) := by decide +kernel
theorem dX2_passes_24 : decode cX2_passes 24 = .ok (.aload_n 0, 1) := by decide +kernel
theorem dX2_passes_25 : decode cX2_passes 25 = .ok (.getfield 36, 3) := by decide +kernel
theorem dX2_passes_28 : decode cX2_passes 28 = .ok (.caload, 1) := by decide +kernel
theorem dX2_passes_29 : decode cX2_passes 29 = .ok (.iload_n 1, 1) := by decide +kernel
theorem dX2_passes_30 : decode cX2_passes 30 = .ok (.if_icmp .eq 5, 3) := by decide +kernel
theorem dX2_passes_33 : decode cX2_passes 33 = .ok (.iconst 0, 1) := by decide +kernel
theorem dX2_passes_34 : decode cX2_passes 34 = .ok (.ireturn, 1) := by decide +kernel
theorem dX2_passes_35 : decode cX2_passes 35 = .ok (.aload_n 0, 1) := by decide +kernel
theorem dX2_passes_36 : decode cX2_passes 36 = .ok (.dup, 1) := by decide +kernel
theorem dX2_passes_37 : decode cX2_passes 37 = .ok (.getfield 36, 3) := by decide +kernel
theorem dX2_passes_40 : decode cX2_passes 40 = .ok (.iconst 1, 1) := by decide +kernel
theorem dX2_passes_41 : decode cX2_passes 41 = .ok (.iadd, 1) := by decide +kernel
theorem dX2_passes_42 : decode cX2_passes 42 = .ok (.putfield 36, 3) := by decide +kernel
theorem dX2_passes_45 : decode cX2_passes 45 = .ok (.iconst 1, 1) := by decide +kernel
theorem dX2_passes_46 : decode cX2_passes 46 = .ok (.ireturn, 1) := by decide +kernel
theorem dX2_digit_0 : decode cX2_digit 0 = .ok (.aload_n 0, 1) := by decide +kernel
theorem dX2_digit_1 : decode cX2_digit 1 = .ok (.getfield 36, 3) := by decide +kernel
theorem dX2_digit_4 : decode cX2_digit 4 = .ok (.aload_n 0, 1) := by decide +kernel
theorem dX2_digit_5 : decode cX2_digit 5 = .ok (.getfield 15, 3) := by decide +kernel
theorem dX2_digit_8 : decode cX2_digit 8 = .ok (.if_icmp .ge 40, 3) := by decide +kernel
theorem dX2_digit_11 : decode cX2_digit 11 = .ok (.aload_n 0, 1) := by decide +kernel
theorem dX2_digit_12 : decode cX2_digit 12 = .ok (.getfield 36, 3) := by decide +kernel
theorem dX2_digit_15 : decode cX2_digit 15 = .ok (.bipush 80, 2) := by decide +kernel
theorem dX2_digit_17 : decode cX2_digit 17 = .ok (.if_icmp .ge 31, 3) := by decide +kernel
theorem dX2_digit_20 : decode cX2_digit 20 = .ok (.aload_n 0, 1) := by decide +kernel
theorem dX2_digit_21 : decode cX2_digit 21 = .ok (.getfield 9, 3) := by decide +kernel
theorem dX2_digit_24 : decode cX2_digit 24 = .ok (.aload_n 0, 1) := by decide +kernel
theorem dX2_digit_25 : decode cX2_digit 25 = .ok (.getfield 36, 3) := by decide +kernel
theorem dX2_digit_28 : decode cX2_digit 28 = .ok (.caload, 1) := by decide +kernel
theorem dX2_digit_29 : decode cX2_digit 29 = .ok (.bipush 48, 2) := by decide +kernel
theorem dX2_digit_31 : decode cX2_digit 31 = .ok (.if_icmp .lt 17, 3) := by decide +kernel
theorem dX2_digit_34 : decode cX2_digit 34 = .ok (.aload_n 0, 1) := by decide +kernel
theorem dX2_digit_35 : decode cX2_digit 35 = .ok (.getfield 9, 3) := by decide +kernel
theorem dX2_digit_38 : decode cX2_digit 38 = .ok (.aload_n 0, 1) := by decide +kernel
theorem dX2_digit_39 : decode cX2_digit 39 = .ok (.getfield 36, 3) := by decide +kernel
theorem dX2_digit_42 : decode cX2_digit 42 = .ok (.caload, 1) := by decide +kernel
theorem dX2_digit_43 : decode cX2_digit 43 = .ok (.bipush 57, 2) := by decide +kernel
theorem dX2_digit_45 : decode cX2_digit 45 = .ok (.if_icmp .le 5, 3) := by decide +kernel
theorem dX2_digit_48 : decode cX2_digit 48 = .ok (.iconst (-1), 1) := by decide +kernel
theorem dX2_digit_49 : decode cX2_digit 49 = .ok (.ireturn, 1) := by decide +kernel
theorem dX2_digit_50 : decode cX2_digit 50 = .ok (.aload_n 0, 1) := by decide +kernel
theorem dX2_digit_51 : decode cX2_digit 51 = .ok (.getfield 9, 3) := by decide +kernel
theorem dX2_digit_54 : decode cX2_digit 54 = .ok (.aload_n 0, 1) := by decide +kernel
theorem dX2_digit_55 : decode cX2_digit 55 = .ok (.getfield 36, 3) := by decide +kernel
theorem dX2_digit_58 : decode cX2_digit 58 = .ok (.caload, 1) := by decide +kernel
theorem dX2_digit_59 : decode cX2_digit 59 = .ok (.bipush 48, 2) := by decide +kernel
theorem dX2_digit_61 : decode cX2_digit 61 = .ok (.isub, 1) := by decide +kernel
theorem dX2_digit_62 : decode cX2_digit 62 = .ok (.ireturn, 1) := by decide +kernel
theorem dX3_init_0 : decode cX3_init 0 = .ok (.aload_n 0, 1) := by decide +kernel
theorem dX3_init_1 : decode cX3_init 1 = .ok (.invokespecial 1, 3) := by decide +kernel
theorem dX3_init_4 : decode cX3_init 4 = .ok (.aload_n 0, 1) := by decide +kernel
theorem dX3_init_5 : decode cX3_init 5 = .ok (.new 7, 3) := by decide +kernel
theorem dX3_init_8 : decode cX3_init 8 = .ok (.dup, 1) := by decide +kernel
theorem dX3_init_9 : decode cX3_init 9 = .ok (.invokespecial 9, 3) := by decide +kernel
theorem dX3_init_12 : decode cX3_init 12 = .ok (.putfield 10, 3) := by decide +kernel
theorem dX3_init_15 : decode cX3_init 15 = .ok (.aload_n 0, 1) := by decide +kernel
theorem dX3_init_16 : decode cX3_init 16 = .ok (.iconst 0, 1) := by decide +kernel
theorem dX3_init_17 : decode cX3_init 17 = .ok (.putfield 16, 3) := by decide +kernel
theorem dX3_init_20 : decode cX3_init 20 = .ok (.return_, 1) := by decide +kernel
theorem dX4_init_0 : decode cX4_init 0 = .ok (.aload_n 0, 1) := by decide +kernel
theorem dX4_init_1 : decode cX4_init 1 = .ok (.invokespecial 3, 3) := by decide +kernel
theorem dX4_init_4 : decode cX4_init 4 = .ok (.aload_n 0, 1) := by decide +kernel
theorem dX4_init_5 : decode cX4_init 5 = .ok (.iconst 4, 1) := by decide +kernel
theorem dX4_init_6 : decode cX4_init 6 = .ok (.anewarray 9, 3) := by decide +kernel
theorem dX4_init_9 : decode cX4_init 9 = .ok (.putfield 11, 3) := by decide +kernel
theorem dX4_init_12 : decode cX4_init 12 = .ok (.aload_n 0, 1) := by decide +kernel
theorem dX4_init_13 : decode cX4_init 13 = .ok (.iconst 0, 1) := by decide +kernel
theorem dX4_init_14 : decode cX4_init 14 = .ok (.putfield 17, 3) := by decide +kernel
theorem dX4_init_17 : decode cX4_init 17 = .ok (.iconst 0, 1) := by decide +kernel
theorem dX4_init_18 : decode cX4_init 18 = .ok (.istore_n 1, 1) := by decide +kernel
theorem dX4_init_19 : decode cX4_init 19 = .ok (.iload_n 1, 1) := by decide +kernel
theorem dX4_init_20 : decode cX4_init 20 = .ok (.iconst 4, 1) := by decide +kernel
theorem dX4_init_21 : decode cX4_init 21 = .ok (.if_icmp .ge 22, 3) := by decide +kernel
theorem dX4_init_24 : decode cX4_init 24 = .ok (.aload_n 0, 1) := by decide +kernel
theorem dX4_init_25 : decode cX4_init 25 = .ok (.getfield 11, 3) := by decide +kernel
theorem dX4_init_28 : decode cX4_init 28 = .ok (.iload_n 1, 1) := by decide +kernel
theorem dX4_init_29 : decode cX4_init 29 = .ok (.new 9, 3) := by decide +kernel
theorem dX4_init_32 : decode cX4_init 32 = .ok (.dup, 1) := by decide +kernel
theorem dX4_init_33 : decode cX4_init 33 = .ok (.invokespecial 21, 3) := by decide +kernel
theorem dX4_init_36 : decode cX4_init 36 = .ok (.aastore, 1) := by decide +kernel
theorem dX4_init_37 : decode cX4_init 37 = .ok (.iinc 1 1, 3) := by decide +kernel
theorem dX4_init_40 : decode cX4_init 40 = .ok (.goto (-21), 3) := by decide +kernel
theorem dX4_init_43 : decode cX4_init 43 = .ok (.return_, 1) := by decide +kernel
theorem dX4_become_0 : decode cX4_become 0 = .ok (.iconst 0, 1) := by decide +kernel
theorem dX4_become_1 : decode cX4_become 1 = .ok (.istore_n 2, 1) := by decide +kernel
theorem dX4_become_2 : decode cX4_become 2 = .ok (.iload_n 2, 1) := by decide +kernel
theorem dX4_become_3 : decode cX4_become 3 = .ok (.iconst 4, 1) := by decide +kernel
theorem dX4_become_4 : decode cX4_become 4 = .ok (.if_icmp .ge 24, 3) := by decide +kernel
theorem dX4_become_7 : decode cX4_become 7 = .ok (.aload_n 0, 1) := by decide +kernel
theorem dX4_become_8 : decode cX4_become 8 = .ok (.getfield 11, 3) := by decide +kernel
theorem dX4_become_11 : decode cX4_become 11 = .ok (.iload_n 2, 1) := by decide +kernel
theorem dX4_become_12 : decode cX4_become 12 = .ok (.aaload, 1) := by decide +kernel
theorem dX4_become_13 : decode cX4_become 13 = .ok (.aload_n 1, 1) := by decide +kernel
theorem dX4_become_14 : decode cX4_become 14 = .ok (.getfield 11, 3) := by decide +kernel
theorem dX4_become_17 : decode cX4_become 17 = .ok (.iload_n 2, 1) := by decide +kernel
theorem dX4_become_18 : decode cX4_become 18 = .ok (.aaload, 1) := by decide +kernel
theorem dX4_become_19 : decode cX4_become 19 = .ok (.invokevirtual 22, 3) := by decide +kernel
theorem dX4_become_22 : decode cX4_become 22 = .ok (.iinc 2 1, 3) := by decide +kernel
theorem dX4_become_25 : decode cX4_become 25 = .ok (.goto (-23), 3) := by decide +kernel
theorem dX4_become_28 : decode cX4_become 28 = .ok (.aload_n 0, 1) := by decide +kernel
theorem dX4_become_29 : decode cX4_become 29 = .ok (.aload_n 1, 1) := by decide +kernel
theorem dX4_become_30 : decode cX4_become 30 = .ok (.getfield 17, 3) := by decide +kernel
theorem dX4_become_33 : decode cX4_become 33 = .ok (.putfield 17, 3) := by decide +kernel
theorem dX4_become_36 : decode cX4_become 36 = .ok (.return_, 1) := by decide +kernel
theorem dX4_room_0 : decode cX4_room 0 = .ok (.iconst 0, 1) := by decide +kernel
theorem dX4_room_1 : decode cX4_room 1 = .ok (.istore_n 1, 1) := by decide +kernel
theorem dX4_room_2 : decode cX4_room 2 = .ok (.iconst 0, 1) := by decide +kernel
theorem dX4_room_3 : decode cX4_room 3 = .ok (.istore_n 2, 1) := by decide +kernel
theorem dX4_room_4 : decode cX4_room 4 = .ok (.iload_n 2, 1) := by decide +kernel
theorem dX4_room_5 : decode cX4_room 5 = .ok (.iconst 4, 1) := by decide +kernel
theorem dX4_room_6 : decode cX4_room 6 = .ok (.if_icmp .ge 21, 3) := by decide +kernel
theorem dX4_room_9 : decode cX4_room 9 = .ok (.iload_n 1, 1) := by decide +kernel
theorem dX4_room_10 : decode cX4_room 10 = .ok (.aload_n 0, 1) := by decide +kernel
theorem dX4_room_11 : decode cX4_room 11 = .ok (.getfield 11, 3) := by decide +kernel
theorem dX4_room_14 : decode cX4_room 14 = .ok (.iload_n 2, 1) := by decide +kernel
theorem dX4_room_15 : decode cX4_room 15 = .ok (.aaload, 1) := by decide +kernel
theorem dX4_room_16 : decode cX4_room 16 = .ok (.invokevirtual 26, 3) := by decide +kernel
theorem dX4_room_19 : decode cX4_room 19 = .ok (.iadd, 1) := by decide +kernel
theorem dX4_room_20 : decode cX4_room 20 = .ok (.istore_n 1, 1) := by decide +kernel
theorem dX4_room_21 : decode cX4_room 21 = .ok (.iinc 2 1, 3) := by decide +kernel
theorem dX4_room_24 : decode cX4_room 24 = .ok (.goto (-20), 3) := by decide +kernel
theorem dX4_room_27 : decode cX4_room 27 = .ok (.iload_n 1, 1) := by decide +kernel
theorem dX4_room_28 : decode cX4_room 28 = .ok (.ireturn, 1) := by decide +kernel
theorem dX4_emptyOnes_0 : decode cX4_emptyOnes 0 = .ok (.iconst 0, 1) := by decide +kernel
theorem dX4_emptyOnes_1 : decode cX4_emptyOnes 1 = .ok (.istore_n 1, 1) := by decide +kernel
theorem dX4_emptyOnes_2 : decode cX4_emptyOnes 2 = .ok (.iconst 0, 1) := by decide +kernel
theorem dX4_emptyOnes_3 : decode cX4_emptyOnes 3 = .ok (.istore_n 2, 1) := by decide +kernel
theorem dX4_emptyOnes_4 : decode cX4_emptyOnes 4 = .ok (.iload_n 2, 1) := by decide +kernel
theorem dX4_emptyOnes_5 : decode cX4_emptyOnes 5 = .ok (.iconst 4, 1) := by decide +kernel
theorem dX4_emptyOnes_6 : decode cX4_emptyOnes 6 = .ok (.if_icmp .ge 30, 3) := by decide +kernel
theorem dX4_emptyOnes_9 : decode cX4_emptyOnes 9 = .ok (.aload_n 0, 1) := by decide +kernel
theorem dX4_emptyOnes_10 : decode cX4_emptyOnes 10 = .ok (.getfield 11, 3) := by decide +kernel
theorem dX4_emptyOnes_13 : decode cX4_emptyOnes 13 = .ok (.iload_n 2, 1) := by decide +kernel
theorem dX4_emptyOnes_14 : decode cX4_emptyOnes 14 = .ok (.aaload, 1) := by decide +kernel
theorem dX4_emptyOnes_15 : decode cX4_emptyOnes 15 = .ok (.iconst 0, 1) := by decide +kernel
theorem dX4_emptyOnes_16 : decode cX4_emptyOnes 16 = .ok (.iconst 0, 1) := by decide +kernel
theorem dX4_emptyOnes_17 : decode cX4_emptyOnes 17 = .ok (.iconst 0, 1) := by decide +kernel
theorem dX4_emptyOnes_18 : decode cX4_emptyOnes 18 = .ok (.invokevirtual 30, 3) := by decide +kernel
theorem dX4_emptyOnes_21 : decode cX4_emptyOnes 21 = .ok (.ifCond .ne 9, 3) := by decide +kernel
theorem dX4_emptyOnes_24 : decode cX4_emptyOnes 24 = .ok (.iload_n 1, 1) := by decide +kernel
theorem dX4_emptyOnes_25 : decode cX4_emptyOnes 25 = .ok (.iconst 1, 1) := by decide +kernel
theorem dX4_emptyOnes_26 : decode cX4_emptyOnes 26 = .ok (.iload_n 2, 1) := by decide +kernel
theorem dX4_emptyOnes_27 : decode cX4_emptyOnes 27 = .ok (.ishl, 1) := by decide +kernel
theorem dX4_emptyOnes_28 : decode cX4_emptyOnes 28 = .ok (.ior, 1) := by decide +kernel
theorem dX4_emptyOnes_29 : decode cX4_emptyOnes 29 = .ok (.istore_n 1, 1) := by decide +kernel
theorem dX4_emptyOnes_30 : decode cX4_emptyOnes 30 = .ok (.iinc 2 1, 3) := by decide +kernel
theorem dX4_emptyOnes_33 : decode cX4_emptyOnes 33 = .ok (.goto (-29), 3) := by decide +kernel
theorem dX4_emptyOnes_36 : decode cX4_emptyOnes 36 = .ok (.iload_n 1, 1) := by decide +kernel
theorem dX4_emptyOnes_37 : decode cX4_emptyOnes 37 = .ok (.ireturn, 1) := by decide +kernel
theorem dX5_init_0 : decode cX5_init 0 = .ok (.aload_n 0, 1) := by decide +kernel
theorem dX5_init_1 : decode cX5_init 1 = .ok (.invokespecial 3, 3) := by decide +kernel
theorem dX5_init_4 : decode cX5_init 4 = .ok (.aload_n 0, 1) := by decide +kernel
theorem dX5_init_5 : decode cX5_init 5 = .ok (.new 9, 3) := by decide +kernel
theorem dX5_init_8 : decode cX5_init 8 = .ok (.dup, 1) := by decide +kernel
theorem dX5_init_9 : decode cX5_init 9 = .ok (.invokespecial 11, 3) := by decide +kernel
theorem dX5_init_12 : decode cX5_init 12 = .ok (.putfield 12, 3) := by decide +kernel
theorem dX5_init_15 : decode cX5_init 15 = .ok (.aload_n 0, 1) := by decide +kernel
theorem dX5_init_16 : decode cX5_init 16 = .ok (.new 16, 3) := by decide +kernel
theorem dX5_init_19 : decode cX5_init 19 = .ok (.dup, 1) := by decide +kernel
theorem dX5_init_20 : decode cX5_init 20 = .ok (.invokespecial 18, 3) := by decide +kernel
theorem dX5_init_23 : decode cX5_init 23 = .ok (.putfield 19, 3) := by decide +kernel
theorem dX5_init_26 : decode cX5_init 26 = .ok (.aload_n 0, 1) := by decide +kernel
theorem dX5_init_27 : decode cX5_init 27 = .ok (.iconst 2, 1) := by decide +kernel
theorem dX5_init_28 : decode cX5_init 28 = .ok (.anewarray 23, 3) := by decide +kernel
theorem dX5_init_31 : decode cX5_init 31 = .ok (.putfield 25, 3) := by decide +kernel
theorem dX5_init_34 : decode cX5_init 34 = .ok (.aload_n 0, 1) := by decide +kernel
theorem dX5_init_35 : decode cX5_init 35 = .ok (.new 29, 3) := by decide +kernel
theorem dX5_init_38 : decode cX5_init 38 = .ok (.dup, 1) := by decide +kernel
theorem dX5_init_39 : decode cX5_init 39 = .ok (.invokespecial 31, 3) := by decide +kernel
theorem dX5_init_42 : decode cX5_init 42 = .ok (.putfield 32, 3) := by decide +kernel
theorem dX5_init_45 : decode cX5_init 45 = .ok (.aload_n 0, 1) := by decide +kernel
theorem dX5_init_46 : decode cX5_init 46 = .ok (.new 36, 3) := by decide +kernel
theorem dX5_init_49 : decode cX5_init 49 = .ok (.dup, 1) := by decide +kernel
theorem dX5_init_50 : decode cX5_init 50 = .ok (.invokespecial 38, 3) := by decide +kernel
theorem dX5_init_53 : decode cX5_init 53 = .ok (.putfield 39, 3) := by decide +kernel
theorem dX5_init_56 : decode cX5_init 56 = .ok (.aload_n 0, 1) := by decide +kernel
theorem dX5_init_57 : decode cX5_init 57 = .ok (.sipush 199, 3) := by decide +kernel
theorem dX5_init_60 : decode cX5_init 60 = .ok (.newarray .int, 2) := by decide +kernel
theorem dX5_init_62 : decode cX5_init 62 = .ok (.putfield 43, 3) := by decide +kernel
theorem dX5_init_65 : decode cX5_init 65 = .ok (.iconst 0, 1) := by decide +kernel
theorem dX5_init_66 : decode cX5_init 66 = .ok (.istore_n 1, 1) := by decide +kernel
theorem dX5_init_67 : decode cX5_init 67 = .ok (.iload_n 1, 1) := by decide +kernel
theorem dX5_init_68 : decode cX5_init 68 = .ok (.iconst 2, 1) := by decide +kernel
theorem dX5_init_69 : decode cX5_init 69 = .ok (.if_icmp .ge 22, 3) := by decide +kernel
theorem dX5_init_72 : decode cX5_init 72 = .ok (.aload_n 0, 1) := by decide +kernel
theorem dX5_init_73 : decode cX5_init 73 = .ok (.getfield 25, 3) := by decide +kernel
theorem dX5_init_76 : decode cX5_init 76 = .ok (.iload_n 1, 1) := by decide +kernel
theorem dX5_init_77 : decode cX5_init 77 = .ok (.new 23, 3) := by decide +kernel
theorem dX5_init_80 : decode cX5_init 80 = .ok (.dup, 1) := by decide +kernel
theorem dX5_init_81 : decode cX5_init 81 = .ok (.invokespecial 47, 3) := by decide +kernel
theorem dX5_init_84 : decode cX5_init 84 = .ok (.aastore, 1) := by decide +kernel
theorem dX5_init_85 : decode cX5_init 85 = .ok (.iinc 1 1, 3) := by decide +kernel
theorem dX5_init_88 : decode cX5_init 88 = .ok (.goto (-21), 3) := by decide +kernel
theorem dX5_init_91 : decode cX5_init 91 = .ok (.return_, 1) := by decide +kernel
theorem dX5_tell_0 : decode cX5_tell 0 = .ok (.iload_n 1, 1) := by decide +kernel
theorem dX5_tell_1 : decode cX5_tell 1 = .ok (.invokestatic 48, 3) := by decide +kernel
theorem dX5_tell_4 : decode cX5_tell 4 = .ok (.ifCond .ne 5, 3) := by decide +kernel
theorem dX5_tell_7 : decode cX5_tell 7 = .ok (.iconst (-1), 1) := by decide +kernel
theorem dX5_tell_8 : decode cX5_tell 8 = .ok (.ireturn, 1) := by decide +kernel
theorem dX5_tell_9 : decode cX5_tell 9 = .ok (.aload_n 0, 1) := by decide +kernel
theorem dX5_tell_10 : decode cX5_tell 10 = .ok (.getfield 32, 3) := by decide +kernel
theorem dX5_tell_13 : decode cX5_tell 13 = .ok (.invokevirtual 52, 3) := by decide +kernel
theorem dX5_tell_16 : decode cX5_tell 16 = .ok (.ifCond .ne 6, 3) := by decide +kernel
theorem dX5_tell_19 : decode cX5_tell 19 = .ok (.bipush (-3), 2) := by decide +kernel
theorem dX5_tell_21 : decode cX5_tell 21 = .ok (.ireturn, 1) := by decide +kernel
theorem dX5_tell_22 : decode cX5_tell 22 = .ok (.aload_n 0, 1) := by decide +kernel
theorem dX5_tell_23 : decode cX5_tell 23 = .ok (.invokevirtual 56, 3) := by decide +kernel
theorem dX5_tell_26 : decode cX5_tell 26 = .ok (.aload_n 0, 1) := by decide +kernel
theorem dX5_tell_27 : decode cX5_tell 27 = .ok (.getfield 12, 3) := by decide +kernel
theorem dX5_tell_30 : decode cX5_tell 30 = .ok (.getfield 59, 3) := by decide +kernel
theorem dX5_tell_33 : decode cX5_tell 33 = .ok (.iload_n 1, 1) := by decide +kernel
theorem dX5_tell_34 : decode cX5_tell 34 = .ok (.aaload, 1) := by decide +kernel
theorem dX5_tell_35 : decode cX5_tell 35 = .ok (.aload_n 0, 1) := by decide +kernel
theorem dX5_tell_36 : decode cX5_tell 36 = .ok (.getfield 32, 3) := by decide +kernel
theorem dX5_tell_39 : decode cX5_tell 39 = .ok (.getfield 63, 3) := by decide +kernel
theorem dX5_tell_42 : decode cX5_tell 42 = .ok (.invokevirtual 66, 3) := by decide +kernel
theorem dX5_tell_45 : decode cX5_tell 45 = .ok (.aload_n 0, 1) := by decide +kernel
theorem dX5_tell_46 : decode cX5_tell 46 = .ok (.getfield 32, 3) := by decide +kernel
theorem dX5_tell_49 : decode cX5_tell 49 = .ok (.iconst 0, 1) := by decide +kernel
theorem dX5_tell_50 : decode cX5_tell 50 = .ok (.putfield 70, 3) := by decide +kernel
theorem dX5_tell_53 : decode cX5_tell 53 = .ok (.aload_n 0, 1) := by decide +kernel
theorem dX5_tell_54 : decode cX5_tell 54 = .ok (.getfield 12, 3) := by decide +kernel
theorem dX5_tell_57 : decode cX5_tell 57 = .ok (.getfield 59, 3) := by decide +kernel
theorem dX5_tell_60 : decode cX5_tell 60 = .ok (.iload_n 1, 1) := by decide +kernel
theorem dX5_tell_61 : decode cX5_tell 61 = .ok (.aaload, 1) := by decide +kernel
theorem dX5_tell_62 : decode cX5_tell 62 = .ok (.invokevirtual 74, 3) := by decide +kernel
theorem dX5_tell_65 : decode cX5_tell 65 = .ok (.ireturn, 1) := by decide +kernel
theorem dX5_entry_0 : decode cX5_entry 0 = .ok (.iload_n 1, 1) := by decide +kernel
theorem dX5_entry_1 : decode cX5_entry 1 = .ok (.iload_n 2, 1) := by decide +kernel
theorem dX5_entry_2 : decode cX5_entry 2 = .ok (.iload_n 3, 1) := by decide +kernel
theorem dX5_entry_3 : decode cX5_entry 3 = .ok (.invokestatic 78, 3) := by decide +kernel
theorem dX5_entry_6 : decode cX5_entry 6 = .ok (.ifCond .ne 5, 3) := by decide +kernel
theorem dX5_entry_9 : decode cX5_entry 9 = .ok (.iconst (-1), 1) := by decide +kernel
theorem dX5_entry_10 : decode cX5_entry 10 = .ok (.ireturn, 1) := by decide +kernel
theorem dX5_entry_11 : decode cX5_entry 11 = .ok (.iload 4, 2) := by decide +kernel
theorem dX5_entry_13 : decode cX5_entry 13 = .ok (.ldc 82, 2) := by decide +kernel
theorem dX5_entry_15 : decode cX5_entry 15 = .ok (.invokestatic 83, 3) := by decide +kernel
theorem dX5_entry_18 : decode cX5_entry 18 = .ok (.ifCond .ne 6, 3) := by decide +kernel
theorem dX5_entry_21 : decode cX5_entry 21 = .ok (.bipush (-2), 2) := by decide +kernel
theorem dX5_entry_23 : decode cX5_entry 23 = .ok (.ireturn, 1) := by decide +kernel
theorem dX5_entry_24 : decode cX5_entry 24 = .ok (.aload_n 0, 1) := by decide +kernel
theorem dX5_entry_25 : decode cX5_entry 25 = .ok (.getfield 12, 3) := by decide +kernel
theorem dX5_entry_28 : decode cX5_entry 28 = .ok (.getfield 59, 3) := by decide +kernel
theorem dX5_entry_31 : decode cX5_entry 31 = .ok (.iload_n 1, 1) := by decide +kernel
theorem dX5_entry_32 : decode cX5_entry 32 = .ok (.aaload, 1) := by decide +kernel
theorem dX5_entry_33 : decode cX5_entry 33 = .ok (.iload_n 2, 1) := by decide +kernel
theorem dX5_entry_34 : decode cX5_entry 34 = .ok (.iload_n 3, 1) := by decide +kernel
theorem dX5_entry_35 : decode cX5_entry 35 = .ok (.invokevirtual 87, 3) := by decide +kernel
theorem dX5_entry_38 : decode cX5_entry 38 = .ok (.istore 5, 2) := by decide +kernel
theorem dX5_entry_40 : decode cX5_entry 40 = .ok (.aload_n 0, 1) := by decide +kernel
theorem dX5_entry_41 : decode cX5_entry 41 = .ok (.invokevirtual 56, 3) := by decide +kernel
theorem dX5_entry_44 : decode cX5_entry 44 = .ok (.aload_n 0, 1) := by decide +kernel
theorem dX5_entry_45 : decode cX5_entry 45 = .ok (.getfield 12, 3) := by decide +kernel
theorem dX5_entry_48 : decode cX5_entry 48 = .ok (.getfield 59, 3) := by decide +kernel
theorem dX5_entry_51 : decode cX5_entry 51 = .ok (.iload_n 1, 1) := by decide +kernel
theorem dX5_entry_52 : decode cX5_entry 52 = .ok (.aaload, 1) := by decide +kernel
theorem dX5_entry_53 : decode cX5_entry 53 = .ok (.iload_n 2, 1) := by decide +kernel
theorem dX5_entry_54 : decode cX5_entry 54 = .ok (.iload_n 3, 1) := by decide +kernel
theorem dX5_entry_55 : decode cX5_entry 55 = .ok (.iload 4, 2) := by decide +kernel
theorem dX5_entry_57 : decode cX5_entry 57 = .ok (.invokevirtual 91, 3) := by decide +kernel
theorem dX5_entry_60 : decode cX5_entry 60 = .ok (.iload 5, 2) := by decide +kernel
theorem dX5_entry_62 : decode cX5_entry 62 = .ok (.ldc 82, 2) := by decide +kernel
theorem dX5_entry_64 : decode cX5_entry 64 = .ok (.iadd, 1) := by decide +kernel
theorem dX5_entry_65 : decode cX5_entry 65 = .ok (.ireturn, 1) := by decide +kernel
theorem dX5_shrink_0 : decode cX5_shrink 0 = .ok (.iload_n 1, 1) := by decide +kernel
theorem dX5_shrink_1 : decode cX5_shrink 1 = .ok (.invokestatic 48, 3) := by decide +kernel
theorem dX5_shrink_4 : decode cX5_shrink 4 = .ok (.ifCond .ne 5, 3) := by decide +kernel
theorem dX5_shrink_7 : decode cX5_shrink 7 = .ok (.iconst (-1), 1) := by decide +kernel
theorem dX5_shrink_8 : decode cX5_shrink 8 = .ok (.ireturn, 1) := by decide +kernel
theorem dX5_shrink_9 : decode cX5_shrink 9 = .ok (.aload_n 0, 1) := by decide +kernel
theorem dX5_shrink_10 : decode cX5_shrink 10 = .ok (.invokevirtual 56, 3) := by decide +kernel
theorem dX5_shrink_13 : decode cX5_shrink 13 = .ok (.aload_n 0, 1) := by decide +kernel
theorem dX5_shrink_14 : decode cX5_shrink 14 = .ok (.getfield 12, 3) := by decide +kernel
theorem dX5_shrink_17 : decode cX5_shrink 17 = .ok (.getfield 59, 3) := by decide +kernel
theorem dX5_shrink_20 : decode cX5_shrink 20 = .ok (.iload_n 1, 1) := by decide +kernel
theorem dX5_shrink_21 : decode cX5_shrink 21 = .ok (.aaload, 1) := by decide +kernel
theorem dX5_shrink_22 : decode cX5_shrink 22 = .ok (.invokevirtual 74, 3) := by decide +kernel
theorem dX5_shrink_25 : decode cX5_shrink 25 = .ok (.istore_n 2, 1) := by decide +kernel
theorem dX5_shrink_26 : decode cX5_shrink 26 = .ok (.iload_n 2, 1) := by decide +kernel
theorem dX5_shrink_27 : decode cX5_shrink 27 = .ok (.aload_n 0, 1) := by decide +kernel
theorem dX5_shrink_28 : decode cX5_shrink 28 = .ok (.getfield 12, 3) := by decide +kernel
theorem dX5_shrink_31 : decode cX5_shrink 31 = .ok (.getfield 59, 3) := by decide +kernel
theorem dX5_shrink_34 : decode cX5_shrink 34 = .ok (.iload_n 1, 1) := by decide +kernel
theorem dX5_shrink_35 : decode cX5_shrink 35 = .ok (.aaload, 1) := by decide +kernel
theorem dX5_shrink_36 : decode cX5_shrink 36 = .ok (.invokevirtual 95, 3) := by decide +kernel
theorem dX5_shrink_39 : decode cX5_shrink 39 = .ok (.isub, 1) := by decide +kernel
theorem dX5_shrink_40 : decode cX5_shrink 40 = .ok (.ireturn, 1) := by decide +kernel
theorem dX5_add_0 : decode cX5_add 0 = .ok (.iload_n 1, 1) := by decide +kernel
theorem dX5_add_1 : decode cX5_add 1 = .ok (.invokestatic 48, 3) := by decide +kernel
theorem dX5_add_4 : decode cX5_add 4 = .ok (.ifCond .eq 10, 3) := by decide +kernel
theorem dX5_add_7 : decode cX5_add 7 = .ok (.iload_n 2, 1) := by decide +kernel
theorem dX5_add_8 : decode cX5_add 8 = .ok (.invokestatic 48, 3) := by decide +kernel
theorem dX5_add_11 : decode cX5_add 11 = .ok (.ifCond .ne 5, 3) := by decide +kernel
theorem dX5_add_14 : decode cX5_add 14 = .ok (.iconst (-1), 1) := by decide +kernel
theorem dX5_add_15 : decode cX5_add 15 = .ok (.ireturn, 1) := by decide +kernel
theorem dX5_add_16 : decode cX5_add 16 = .ok (.iload_n 3, 1) := by decide +kernel
theorem dX5_add_17 : decode cX5_add 17 = .ok (.ifCond .eq 17, 3) := by decide +kernel
theorem dX5_add_20 : decode cX5_add 20 = .ok (.iload_n 3, 1) := by decide +kernel
theorem dX5_add_21 : decode cX5_add 21 = .ok (.bipush 99, 2) := by decide +kernel
theorem dX5_add_23 : decode cX5_add 23 = .ok (.invokestatic 83, 3) := by decide +kernel
theorem dX5_add_26 : decode cX5_add 26 = .ok (.ifCond .eq 8, 3) := by decide +kernel
theorem dX5_add_29 : decode cX5_add 29 = .ok (.iload_n 1, 1) := by decide +kernel
theorem dX5_add_30 : decode cX5_add 30 = .ok (.iload_n 2, 1) := by decide +kernel
theorem dX5_add_31 : decode cX5_add 31 = .ok (.if_icmp .ne 6, 3) := by decide +kernel
theorem dX5_add_34 : decode cX5_add 34 = .ok (.bipush (-2), 2) := by decide +kernel
theorem dX5_add_36 : decode cX5_add 36 = .ok (.ireturn, 1) := by decide +kernel
theorem dX5_add_37 : decode cX5_add 37 = .ok (.aload_n 0, 1) := by decide +kernel
theorem dX5_add_38 : decode cX5_add 38 = .ok (.invokevirtual 56, 3) := by decide +kernel
theorem dX5_add_41 : decode cX5_add 41 = .ok (.aload_n 0, 1) := by decide +kernel
theorem dX5_add_42 : decode cX5_add 42 = .ok (.getfield 12, 3) := by decide +kernel
theorem dX5_add_45 : decode cX5_add 45 = .ok (.getfield 59, 3) := by decide +kernel
theorem dX5_add_48 : decode cX5_add 48 = .ok (.iload_n 1, 1) := by decide +kernel
theorem dX5_add_49 : decode cX5_add 49 = .ok (.aaload, 1) := by decide +kernel
theorem dX5_add_50 : decode cX5_add 50 = .ok (.aload_n 0, 1) := by decide +kernel
theorem dX5_add_51 : decode cX5_add 51 = .ok (.getfield 12, 3) := by decide +kernel
theorem dX5_add_54 : decode cX5_add 54 = .ok (.getfield 59, 3) := by decide +kernel
theorem dX5_add_57 : decode cX5_add 57 = .ok (.iload_n 2, 1) := by decide +kernel
theorem dX5_add_58 : decode cX5_add 58 = .ok (.aaload, 1) := by decide +kernel
theorem dX5_add_59 : decode cX5_add 59 = .ok (.iload_n 3, 1) := by decide +kernel
theorem dX5_add_60 : decode cX5_add 60 = .ok (.invokevirtual 98, 3) := by decide +kernel
theorem dX5_add_63 : decode cX5_add 63 = .ok (.aload_n 0, 1) := by decide +kernel
theorem dX5_add_64 : decode cX5_add 64 = .ok (.getfield 12, 3) := by decide +kernel
theorem dX5_add_67 : decode cX5_add 67 = .ok (.getfield 59, 3) := by decide +kernel
theorem dX5_add_70 : decode cX5_add 70 = .ok (.iload_n 1, 1) := by decide +kernel
theorem dX5_add_71 : decode cX5_add 71 = .ok (.aaload, 1) := by decide +kernel
theorem dX5_add_72 : decode cX5_add 72 = .ok (.invokevirtual 74, 3) := by decide +kernel
theorem dX5_add_75 : decode cX5_add 75 = .ok (.ireturn, 1) := by decide +kernel
theorem dX5_turn_0 : decode cX5_turn 0 = .ok (.iload_n 1, 1) := by decide +kernel
theorem dX5_turn_1 : decode cX5_turn 1 = .ok (.invokestatic 48, 3) := by decide +kernel
theorem dX5_turn_4 : decode cX5_turn 4 = .ok (.ifCond .ne 5, 3) := by decide +kernel
theorem dX5_turn_7 : decode cX5_turn 7 = .ok (.iconst (-1), 1) := by decide +kernel
theorem dX5_turn_8 : decode cX5_turn 8 = .ok (.ireturn, 1) := by decide +kernel
theorem dX5_turn_9 : decode cX5_turn 9 = .ok (.aload_n 0, 1) := by decide +kernel
theorem dX5_turn_10 : decode cX5_turn 10 = .ok (.invokevirtual 56, 3) := by decide +kernel
theorem dX5_turn_13 : decode cX5_turn 13 = .ok (.aload_n 0, 1) := by decide +kernel
theorem dX5_turn_14 : decode cX5_turn 14 = .ok (.getfield 12, 3) := by decide +kernel
theorem dX5_turn_17 : decode cX5_turn 17 = .ok (.getfield 59, 3) := by decide +kernel
theorem dX5_turn_20 : decode cX5_turn 20 = .ok (.iload_n 1, 1) := by decide +kernel
theorem dX5_turn_21 : decode cX5_turn 21 = .ok (.aaload, 1) := by decide +kernel
theorem dX5_turn_22 : decode cX5_turn 22 = .ok (.invokevirtual 102, 3) := by decide +kernel
theorem dX5_turn_25 : decode cX5_turn 25 = .ok (.aload_n 0, 1) := by decide +kernel
theorem dX5_turn_26 : decode cX5_turn 26 = .ok (.getfield 12, 3) := by decide +kernel
theorem dX5_turn_29 : decode cX5_turn 29 = .ok (.getfield 59, 3) := by decide +kernel
theorem dX5_turn_32 : decode cX5_turn 32 = .ok (.iload_n 1, 1) := by decide +kernel
theorem dX5_turn_33 : decode cX5_turn 33 = .ok (.aaload, 1) := by decide +kernel
theorem dX5_turn_34 : decode cX5_turn 34 = .ok (.invokevirtual 105, 3) := by decide +kernel
theorem dX5_turn_37 : decode cX5_turn 37 = .ok (.ldc 108, 2) := by decide +kernel
theorem dX5_turn_39 : decode cX5_turn 39 = .ok (.iadd, 1) := by decide +kernel
theorem dX5_turn_40 : decode cX5_turn 40 = .ok (.ireturn, 1) := by decide +kernel
theorem dX5_copy_0 : decode cX5_copy 0 = .ok (.iload_n 1, 1) := by decide +kernel
theorem dX5_copy_1 : decode cX5_copy 1 = .ok (.invokestatic 48, 3) := by decide +kernel
theorem dX5_copy_4 : decode cX5_copy 4 = .ok (.ifCond .eq 10, 3) := by decide +kernel
theorem dX5_copy_7 : decode cX5_copy 7 = .ok (.iload_n 2, 1) := by decide +kernel
theorem dX5_copy_8 : decode cX5_copy 8 = .ok (.invokestatic 48, 3) := by decide +kernel
theorem dX5_copy_11 : decode cX5_copy 11 = .ok (.ifCond .ne 5, 3) := by decide +kernel
theorem dX5_copy_14 : decode cX5_copy 14 = .ok (.iconst (-1), 1) := by decide +kernel
theorem dX5_copy_15 : decode cX5_copy 15 = .ok (.ireturn, 1) := by decide +kernel
theorem dX5_copy_16 : decode cX5_copy 16 = .ok (.iload_n 1, 1) := by decide +kernel
theorem dX5_copy_17 : decode cX5_copy 17 = .ok (.iload_n 2, 1) := by decide +kernel
theorem dX5_copy_18 : decode cX5_copy 18 = .ok (.if_icmp .ne 6, 3) := by decide +kernel
theorem dX5_copy_21 : decode cX5_copy 21 = .ok (.bipush (-2), 2) := by decide +kernel
theorem dX5_copy_23 : decode cX5_copy 23 = .ok (.ireturn, 1) := by decide +kernel
theorem dX5_copy_24 : decode cX5_copy 24 = .ok (.aload_n 0, 1) := by decide +kernel
theorem dX5_copy_25 : decode cX5_copy 25 = .ok (.invokevirtual 56, 3) := by decide +kernel
theorem dX5_copy_28 : decode cX5_copy 28 = .ok (.aload_n 0, 1) := by decide +kernel
theorem dX5_copy_29 : decode cX5_copy 29 = .ok (.getfield 12, 3) := by decide +kernel
theorem dX5_copy_32 : decode cX5_copy 32 = .ok (.getfield 59, 3) := by decide +kernel
theorem dX5_copy_35 : decode cX5_copy 35 = .ok (.iload_n 1, 1) := by decide +kernel
theorem dX5_copy_36 : decode cX5_copy 36 = .ok (.aaload, 1) := by decide +kernel
theorem dX5_copy_37 : decode cX5_copy 37 = .ok (.aload_n 0, 1) := by decide +kernel
theorem dX5_copy_38 : decode cX5_copy 38 = .ok (.getfield 12, 3) := by decide +kernel
theorem dX5_copy_41 : decode cX5_copy 41 = .ok (.getfield 59, 3) := by decide +kernel
theorem dX5_copy_44 : decode cX5_copy 44 = .ok (.iload_n 2, 1) := by decide +kernel
theorem dX5_copy_45 : decode cX5_copy 45 = .ok (.aaload, 1) := by decide +kernel
theorem dX5_copy_46 : decode cX5_copy 46 = .ok (.invokevirtual 66, 3) := by decide +kernel
theorem dX5_copy_49 : decode cX5_copy 49 = .ok (.aload_n 0, 1) := by decide +kernel
theorem dX5_copy_50 : decode cX5_copy 50 = .ok (.getfield 12, 3) := by decide +kernel
theorem dX5_copy_53 : decode cX5_copy 53 = .ok (.getfield 59, 3) := by decide +kernel
theorem dX5_copy_56 : decode cX5_copy 56 = .ok (.iload_n 1, 1) := by decide +kernel
theorem dX5_copy_57 : decode cX5_copy 57 = .ok (.aaload, 1) := by decide +kernel
theorem dX5_copy_58 : decode cX5_copy 58 = .ok (.invokevirtual 74, 3) := by decide +kernel
theorem dX5_copy_61 : decode cX5_copy 61 = .ok (.ireturn, 1) := by decide +kernel
theorem dX5_clear_0 : decode cX5_clear 0 = .ok (.iload_n 1, 1) := by decide +kernel
theorem dX5_clear_1 : decode cX5_clear 1 = .ok (.iload_n 2, 1) := by decide +kernel
theorem dX5_clear_2 : decode cX5_clear 2 = .ok (.iload_n 3, 1) := by decide +kernel
theorem dX5_clear_3 : decode cX5_clear 3 = .ok (.invokestatic 78, 3) := by decide +kernel
theorem dX5_clear_6 : decode cX5_clear 6 = .ok (.ifCond .ne 5, 3) := by decide +kernel
theorem dX5_clear_9 : decode cX5_clear 9 = .ok (.iconst (-1), 1) := by decide +kernel
theorem dX5_clear_10 : decode cX5_clear 10 = .ok (.ireturn, 1) := by decide +kernel
theorem dX5_clear_11 : decode cX5_clear 11 = .ok (.aload_n 0, 1) := by decide +kernel
theorem dX5_clear_12 : decode cX5_clear 12 = .ok (.invokevirtual 56, 3) := by decide +kernel
theorem dX5_clear_15 : decode cX5_clear 15 = .ok (.aload_n 0, 1) := by decide +kernel
theorem dX5_clear_16 : decode cX5_clear 16 = .ok (.getfield 12, 3) := by decide +kernel
theorem dX5_clear_19 : decode cX5_clear 19 = .ok (.getfield 59, 3) := by decide +kernel
theorem dX5_clear_22 : decode cX5_clear 22 = .ok (.iload_n 1, 1) := by decide +kernel
theorem dX5_clear_23 : decode cX5_clear 23 = .ok (.aaload, 1) := by decide +kernel
theorem dX5_clear_24 : decode cX5_clear 24 = .ok (.iload_n 2, 1) := by decide +kernel
theorem dX5_clear_25 : decode cX5_clear 25 = .ok (.iload_n 3, 1) := by decide +kernel
theorem dX5_clear_26 : decode cX5_clear 26 = .ok (.invokevirtual 109, 3) := by decide +kernel
theorem dX5_clear_29 : decode cX5_clear 29 = .ok (.ireturn, 1) := by decide +kernel
theorem dX5_at_0 : decode cX5_at 0 = .ok (.iload_n 1, 1) := by decide +kernel
theorem dX5_at_1 : decode cX5_at 1 = .ok (.iload_n 2, 1) := by decide +kernel
theorem dX5_at_2 : decode cX5_at 2 = .ok (.iload_n 3, 1) := by decide +kernel
theorem dX5_at_3 : decode cX5_at 3 = .ok (.invokestatic 78, 3) := by decide +kernel
theorem dX5_at_6 : decode cX5_at 6 = .ok (.ifCond .ne 5, 3) := by decide +kernel
theorem dX5_at_9 : decode cX5_at 9 = .ok (.iconst (-1), 1) := by decide +kernel
theorem dX5_at_10 : decode cX5_at 10 = .ok (.ireturn, 1) := by decide +kernel
theorem dX5_at_11 : decode cX5_at 11 = .ok (.aload_n 0, 1) := by decide +kernel
theorem dX5_at_12 : decode cX5_at 12 = .ok (.getfield 12, 3) := by decide +kernel
theorem dX5_at_15 : decode cX5_at 15 = .ok (.getfield 59, 3) := by decide +kernel
theorem dX5_at_18 : decode cX5_at 18 = .ok (.iload_n 1, 1) := by decide +kernel
theorem dX5_at_19 : decode cX5_at 19 = .ok (.aaload, 1) := by decide +kernel
theorem dX5_at_20 : decode cX5_at 20 = .ok (.iload_n 2, 1) := by decide +kernel
theorem dX5_at_21 : decode cX5_at 21 = .ok (.iload_n 3, 1) := by decide +kernel
theorem dX5_at_22 : decode cX5_at 22 = .ok (.invokevirtual 87, 3) := by decide +kernel
theorem dX5_at_25 : decode cX5_at 25 = .ok (.ldc 82, 2) := by decide +kernel
theorem dX5_at_27 : decode cX5_at 27 = .ok (.iadd, 1) := by decide +kernel
theorem dX5_at_28 : decode cX5_at 28 = .ok (.ireturn, 1) := by decide +kernel
theorem dX5_block_0 : decode cX5_block 0 = .ok (.iload_n 1, 1) := by decide +kernel
theorem dX5_block_1 : decode cX5_block 1 = .ok (.iload_n 2, 1) := by decide +kernel
theorem dX5_block_2 : decode cX5_block 2 = .ok (.iload_n 3, 1) := by decide +kernel
theorem dX5_block_3 : decode cX5_block 3 = .ok (.invokestatic 78, 3) := by decide +kernel
theorem dX5_block_6 : decode cX5_block 6 = .ok (.ifCond .ne 5, 3) := by decide +kernel
theorem dX5_block_9 : decode cX5_block 9 = .ok (.iconst (-1), 1) := by decide +kernel
theorem dX5_block_10 : decode cX5_block 10 = .ok (.ireturn, 1) := by decide +kernel
theorem dX5_block_11 : decode cX5_block 11 = .ok (.aload_n 0, 1) := by decide +kernel
theorem dX5_block_12 : decode cX5_block 12 = .ok (.getfield 12, 3) := by decide +kernel
theorem dX5_block_15 : decode cX5_block 15 = .ok (.getfield 59, 3) := by decide +kernel
theorem dX5_block_18 : decode cX5_block 18 = .ok (.iload_n 1, 1) := by decide +kernel
theorem dX5_block_19 : decode cX5_block 19 = .ok (.aaload, 1) := by decide +kernel
theorem dX5_block_20 : decode cX5_block 20 = .ok (.astore 5, 2) := by decide +kernel
theorem dX5_block_22 : decode cX5_block 22 = .ok (.aload 5, 2) := by decide +kernel
theorem dX5_block_24 : decode cX5_block 24 = .ok (.iload_n 2, 1) := by decide +kernel
theorem dX5_block_25 : decode cX5_block 25 = .ok (.iload_n 3, 1) := by decide +kernel
theorem dX5_block_26 : decode cX5_block 26 = .ok (.invokevirtual 112, 3) := by decide +kernel
theorem dX5_block_29 : decode cX5_block 29 = .ok (.istore 6, 2) := by decide +kernel
theorem dX5_block_31 : decode cX5_block 31 = .ok (.iload 6, 2) := by decide +kernel
theorem dX5_block_33 : decode cX5_block 33 = .ok (.invokestatic 115, 3) := by decide +kernel
theorem dX5_block_36 : decode cX5_block 36 = .ok (.istore 7, 2) := by decide +kernel
theorem dX5_block_38 : decode cX5_block 38 = .ok (.iload 4, 2) := by decide +kernel
theorem dX5_block_40 : decode cX5_block 40 = .ok (.tableswitch 85 0 5 #[40, 50, 53, 60, 67, 82], 40) := by decide +kernel
theorem dX5_block_80 : decode cX5_block 80 = .ok (.aload 5, 2) := by decide +kernel
theorem dX5_block_82 : decode cX5_block 82 = .ok (.iload 6, 2) := by decide +kernel
theorem dX5_block_84 : decode cX5_block 84 = .ok (.iload_n 2, 1) := by decide +kernel
theorem dX5_block_85 : decode cX5_block 85 = .ok (.iload_n 3, 1) := by decide +kernel
theorem dX5_block_86 : decode cX5_block 86 = .ok (.invokevirtual 119, 3) := by decide +kernel
theorem dX5_block_89 : decode cX5_block 89 = .ok (.ireturn, 1) := by decide +kernel
theorem dX5_block_90 : decode cX5_block 90 = .ok (.iload 7, 2) := by decide +kernel
theorem dX5_block_92 : decode cX5_block 92 = .ok (.ireturn, 1) := by decide +kernel
theorem dX5_block_93 : decode cX5_block 93 = .ok (.iload 6, 2) := by decide +kernel
theorem dX5_block_95 : decode cX5_block 95 = .ok (.iload_n 2, 1) := by decide +kernel
theorem dX5_block_96 : decode cX5_block 96 = .ok (.invokestatic 123, 3) := by decide +kernel
theorem dX5_block_99 : decode cX5_block 99 = .ok (.ireturn, 1) := by decide +kernel
theorem dX5_block_100 : decode cX5_block 100 = .ok (.iload 6, 2) := by decide +kernel
theorem dX5_block_102 : decode cX5_block 102 = .ok (.iload_n 3, 1) := by decide +kernel
theorem dX5_block_103 : decode cX5_block 103 = .ok (.invokestatic 123, 3) := by decide +kernel
theorem dX5_block_106 : decode cX5_block 106 = .ok (.ireturn, 1) := by decide +kernel
theorem dX5_block_107 : decode cX5_block 107 = .ok (.aload 5, 2) := by decide +kernel
theorem dX5_block_109 : decode cX5_block 109 = .ok (.iload 6, 2) := by decide +kernel
theorem dX5_block_111 : decode cX5_block 111 = .ok (.iload_n 2, 1) := by decide +kernel
theorem dX5_block_112 : decode cX5_block 112 = .ok (.iload_n 3, 1) := by decide +kernel
theorem dX5_block_113 : decode cX5_block 113 = .ok (.invokevirtual 119, 3) := by decide +kernel
theorem dX5_block_116 : decode cX5_block 116 = .ok (.iload 7, 2) := by decide +kernel
theorem dX5_block_118 : decode cX5_block 118 = .ok (.invokestatic 126, 3) := by decide +kernel
theorem dX5_block_121 : decode cX5_block 121 = .ok (.ireturn, 1) := by decide +kernel
theorem dX5_block_122 : decode cX5_block 122 = .ok (.iload 6, 2) := by decide +kernel
theorem dX5_block_124 : decode cX5_block 124 = .ok (.ireturn, 1) := by decide +kernel
theorem dX5_block_125 : decode cX5_block 125 = .ok (.bipush (-2), 2) := by decide +kernel
theorem dX5_block_127 : decode cX5_block 127 = .ok (.ireturn, 1) := by decide +kernel
theorem dX5_of_0 : decode cX5_of 0 = .ok (.iload_n 1, 1) := by decide +kernel
theorem dX5_of_1 : decode cX5_of 1 = .ok (.invokestatic 48, 3) := by decide +kernel
theorem dX5_of_4 : decode cX5_of 4 = .ok (.ifCond .ne 5, 3) := by decide +kernel
theorem dX5_of_7 : decode cX5_of 7 = .ok (.iconst (-1), 1) := by decide +kernel
theorem dX5_of_8 : decode cX5_of 8 = .ok (.ireturn, 1) := by decide +kernel
theorem dX5_of_9 : decode cX5_of 9 = .ok (.aload_n 0, 1) := by decide +kernel
theorem dX5_of_10 : decode cX5_of 10 = .ok (.getfield 12, 3) := by decide +kernel
theorem dX5_of_13 : decode cX5_of 13 = .ok (.getfield 59, 3) := by decide +kernel
theorem dX5_of_16 : decode cX5_of 16 = .ok (.iload_n 1, 1) := by decide +kernel
theorem dX5_of_17 : decode cX5_of 17 = .ok (.aaload, 1) := by decide +kernel
theorem dX5_of_18 : decode cX5_of 18 = .ok (.astore_n 3, 1) := by decide +kernel
theorem dX5_of_19 : decode cX5_of 19 = .ok (.iload_n 2, 1) := by decide +kernel
theorem dX5_of_20 : decode cX5_of 20 = .ok (.tableswitch 136 0 10 #[60, 65, 70, 76, 82, 88, 94, 99, 107, 115, 123], 60) := by decide +kernel
theorem dX5_of_80 : decode cX5_of 80 = .ok (.aload_n 3, 1) := by decide +kernel
theorem dX5_of_81 : decode cX5_of 81 = .ok (.invokevirtual 74, 3) := by decide +kernel
theorem dX5_of_84 : decode cX5_of 84 = .ok (.ireturn, 1) := by decide +kernel
theorem dX5_of_85 : decode cX5_of 85 = .ok (.aload_n 3, 1) := by decide +kernel
theorem dX5_of_86 : decode cX5_of 86 = .ok (.invokevirtual 129, 3) := by decide +kernel
theorem dX5_of_89 : decode cX5_of 89 = .ok (.ireturn, 1) := by decide +kernel
theorem dX5_of_90 : decode cX5_of 90 = .ok (.aload_n 3, 1) := by decide +kernel
theorem dX5_of_91 : decode cX5_of 91 = .ok (.iconst 0, 1) := by decide +kernel
theorem dX5_of_92 : decode cX5_of 92 = .ok (.invokevirtual 132, 3) := by decide +kernel
theorem dX5_of_95 : decode cX5_of 95 = .ok (.ireturn, 1) := by decide +kernel
theorem dX5_of_96 : decode cX5_of 96 = .ok (.aload_n 3, 1) := by decide +kernel
theorem dX5_of_97 : decode cX5_of 97 = .ok (.iconst 1, 1) := by decide +kernel
theorem dX5_of_98 : decode cX5_of 98 = .ok (.invokevirtual 132, 3) := by decide +kernel
theorem dX5_of_101 : decode cX5_of 101 = .ok (.ireturn, 1) := by decide +kernel
theorem dX5_of_102 : decode cX5_of 102 = .ok (.aload_n 3, 1) := by decide +kernel
theorem dX5_of_103 : decode cX5_of 103 = .ok (.iconst 2, 1) := by decide +kernel
theorem dX5_of_104 : decode cX5_of 104 = .ok (.invokevirtual 132, 3) := by decide +kernel
theorem dX5_of_107 : decode cX5_of 107 = .ok (.ireturn, 1) := by decide +kernel
theorem dX5_of_108 : decode cX5_of 108 = .ok (.aload_n 3, 1) := by decide +kernel
theorem dX5_of_109 : decode cX5_of 109 = .ok (.iconst 3, 1) := by decide +kernel
theorem dX5_of_110 : decode cX5_of 110 = .ok (.invokevirtual 132, 3) := by decide +kernel
theorem dX5_of_113 : decode cX5_of 113 = .ok (.ireturn, 1) := by decide +kernel
theorem dX5_of_114 : decode cX5_of 114 = .ok (.aload_n 3, 1) := by decide +kernel
theorem dX5_of_115 : decode cX5_of 115 = .ok (.invokevirtual 135, 3) := by decide +kernel
theorem dX5_of_118 : decode cX5_of 118 = .ok (.ireturn, 1) := by decide +kernel
theorem dX5_of_119 : decode cX5_of 119 = .ok (.aload_n 3, 1) := by decide +kernel
theorem dX5_of_120 : decode cX5_of 120 = .ok (.invokevirtual 105, 3) := by decide +kernel
theorem dX5_of_123 : decode cX5_of 123 = .ok (.ldc 108, 2) := by decide +kernel
theorem dX5_of_125 : decode cX5_of 125 = .ok (.iadd, 1) := by decide +kernel
theorem dX5_of_126 : decode cX5_of 126 = .ok (.ireturn, 1) := by decide +kernel
theorem dX5_of_127 : decode cX5_of 127 = .ok (.aload_n 3, 1) := by decide +kernel
theorem dX5_of_128 : decode cX5_of 128 = .ok (.invokevirtual 138, 3) := by decide +kernel
theorem dX5_of_131 : decode cX5_of 131 = .ok (.ldc 82, 2) := by decide +kernel
theorem dX5_of_133 : decode cX5_of 133 = .ok (.iadd, 1) := by decide +kernel
theorem dX5_of_134 : decode cX5_of 134 = .ok (.ireturn, 1) := by decide +kernel
theorem dX5_of_135 : decode cX5_of 135 = .ok (.aload_n 3, 1) := by decide +kernel
theorem dX5_of_136 : decode cX5_of 136 = .ok (.invokevirtual 141, 3) := by decide +kernel
theorem dX5_of_139 : decode cX5_of 139 = .ok (.ldc 82, 2) := by decide +kernel
theorem dX5_of_141 : decode cX5_of 141 = .ok (.iadd, 1) := by decide +kernel
theorem dX5_of_142 : decode cX5_of 142 = .ok (.ireturn, 1) := by decide +kernel
theorem dX5_of_143 : decode cX5_of 143 = .ok (.aload_n 3, 1) := by decide +kernel
theorem dX5_of_144 : decode cX5_of 144 = .ok (.invokevirtual 144, 3) := by decide +kernel
theorem dX5_of_147 : decode cX5_of 147 = .ok (.ifCond .eq 7, 3) := by decide +kernel
theorem dX5_of_150 : decode cX5_of 150 = .ok (.iconst 1, 1) := by decide +kernel
theorem dX5_of_151 : decode cX5_of 151 = .ok (.goto 4, 3) := by decide +kernel
theorem dX5_of_154 : decode cX5_of 154 = .ok (.iconst 0, 1) := by decide +kernel
theorem dX5_of_155 : decode cX5_of 155 = .ok (.ireturn, 1) := by decide +kernel
theorem dX5_of_156 : decode cX5_of 156 = .ok (.bipush (-2), 2) := by decide +kernel
theorem dX5_of_158 : decode cX5_of 158 = .ok (.ireturn, 1) := by decide +kernel
theorem dX5_product_0 : decode cX5_product 0 = .ok (.iload_n 1, 1) := by decide +kernel
theorem dX5_product_1 : decode cX5_product 1 = .ok (.iload_n 2, 1) := by decide +kernel
theorem dX5_product_2 : decode cX5_product 2 = .ok (.iconst 0, 1) := by decide +kernel
theorem dX5_product_3 : decode cX5_product 3 = .ok (.invokestatic 78, 3) := by decide +kernel
theorem dX5_product_6 : decode cX5_product 6 = .ok (.ifCond .eq 24, 3) := by decide +kernel
theorem dX5_product_9 : decode cX5_product 9 = .ok (.iload_n 3, 1) := by decide +kernel
theorem dX5_product_10 : decode cX5_product 10 = .ok (.sipush 9999, 3) := by decide +kernel
theorem dX5_product_13 : decode cX5_product 13 = .ok (.invokestatic 83, 3) := by decide +kernel
theorem dX5_product_16 : decode cX5_product 16 = .ok (.ifCond .eq 14, 3) := by decide +kernel
theorem dX5_product_19 : decode cX5_product 19 = .ok (.iload 4, 2) := by decide +kernel
theorem dX5_product_21 : decode cX5_product 21 = .ok (.sipush 999, 3) := by decide +kernel
theorem dX5_product_24 : decode cX5_product 24 = .ok (.invokestatic 83, 3) := by decide +kernel
theorem dX5_product_27 : decode cX5_product 27 = .ok (.ifCond .ne 7, 3) := by decide +kernel
theorem dX5_product_30 : decode cX5_product 30 = .ok (.ldc2_w 147, 3) := by decide +kernel
theorem dX5_product_33 : decode cX5_product 33 = .ok (.lreturn, 1) := by decide +kernel
theorem dX5_product_34 : decode cX5_product 34 = .ok (.lconst 0, 1) := by decide +kernel
theorem dX5_product_35 : decode cX5_product 35 = .ok (.lstore 5, 2) := by decide +kernel
theorem dX5_product_37 : decode cX5_product 37 = .ok (.iconst 0, 1) := by decide +kernel
theorem dX5_product_38 : decode cX5_product 38 = .ok (.istore 7, 2) := by decide +kernel
theorem dX5_product_40 : decode cX5_product 40 = .ok (.iload 7, 2) := by decide +kernel
theorem dX5_product_42 : decode cX5_product 42 = .ok (.bipush 16, 2) := by decide +kernel
theorem dX5_product_44 : decode cX5_product 44 = .ok (.if_icmp .ge 39, 3) := by decide +kernel
theorem dX5_product_47 : decode cX5_product 47 = .ok (.lload 5, 2) := by decide +kernel
theorem dX5_product_49 : decode cX5_product 49 = .ok (.aload_n 0, 1) := by decide +kernel
theorem dX5_product_50 : decode cX5_product 50 = .ok (.getfield 12, 3) := by decide +kernel
theorem dX5_product_53 : decode cX5_product 53 = .ok (.getfield 59, 3) := by decide +kernel
theorem dX5_product_56 : decode cX5_product 56 = .ok (.iload_n 1, 1) := by decide +kernel
theorem dX5_product_57 : decode cX5_product 57 = .ok (.aaload, 1) := by decide +kernel
theorem dX5_product_58 : decode cX5_product 58 = .ok (.iload_n 2, 1) := by decide +kernel
theorem dX5_product_59 : decode cX5_product 59 = .ok (.iload 7, 2) := by decide +kernel
theorem dX5_product_61 : decode cX5_product 61 = .ok (.invokevirtual 87, 3) := by decide +kernel
theorem dX5_product_64 : decode cX5_product 64 = .ok (.i2l, 1) := by decide +kernel
theorem dX5_product_65 : decode cX5_product 65 = .ok (.iload_n 3, 1) := by decide +kernel
theorem dX5_product_66 : decode cX5_product 66 = .ok (.iload 4, 2) := by decide +kernel
theorem dX5_product_68 : decode cX5_product 68 = .ok (.iload 7, 2) := by decide +kernel
theorem dX5_product_70 : decode cX5_product 70 = .ok (.imul, 1) := by decide +kernel
theorem dX5_product_71 : decode cX5_product 71 = .ok (.iadd, 1) := by decide +kernel
theorem dX5_product_72 : decode cX5_product 72 = .ok (.i2l, 1) := by decide +kernel
theorem dX5_product_73 : decode cX5_product 73 = .ok (.lmul, 1) := by decide +kernel
theorem dX5_product_74 : decode cX5_product 74 = .ok (.ladd, 1) := by decide +kernel
theorem dX5_product_75 : decode cX5_product 75 = .ok (.lstore 5, 2) := by decide +kernel
theorem dX5_product_77 : decode cX5_product 77 = .ok (.iinc 7 1, 3) := by decide +kernel
theorem dX5_product_80 : decode cX5_product 80 = .ok (.goto (-40), 3) := by decide +kernel
theorem dX5_product_83 : decode cX5_product 83 = .ok (.lload 5, 2) := by decide +kernel
theorem dX5_product_85 : decode cX5_product 85 = .ok (.lreturn, 1) := by decide +kernel
theorem dX5_mean_0 : decode cX5_mean 0 = .ok (.iload_n 1, 1) := by decide +kernel
theorem dX5_mean_1 : decode cX5_mean 1 = .ok (.invokestatic 48, 3) := by decide +kernel
theorem dX5_mean_4 : decode cX5_mean 4 = .ok (.ifCond .ne 5, 3) := by decide +kernel
theorem dX5_mean_7 : decode cX5_mean 7 = .ok (.lconst 0, 1) := by decide +kernel
theorem dX5_mean_8 : decode cX5_mean 8 = .ok (.lreturn, 1) := by decide +kernel
theorem dX5_mean_9 : decode cX5_mean 9 = .ok (.aload_n 0, 1) := by decide +kernel
theorem dX5_mean_10 : decode cX5_mean 10 = .ok (.getfield 12, 3) := by decide +kernel
theorem dX5_mean_13 : decode cX5_mean 13 = .ok (.getfield 59, 3) := by decide +kernel
theorem dX5_mean_16 : decode cX5_mean 16 = .ok (.iload_n 1, 1) := by decide +kernel
theorem dX5_mean_17 : decode cX5_mean 17 = .ok (.aaload, 1) := by decide +kernel
theorem dX5_mean_18 : decode cX5_mean 18 = .ok (.invokevirtual 149, 3) := by decide +kernel
theorem dX5_mean_21 : decode cX5_mean 21 = .ok (.bipush 52, 2) := by decide +kernel
theorem dX5_mean_23 : decode cX5_mean 23 = .ok (.sipush 1023, 3) := by decide +kernel
theorem dX5_mean_26 : decode cX5_mean 26 = .ok (.invokestatic 152, 3) := by decide +kernel
theorem dX5_mean_29 : decode cX5_mean 29 = .ok (.lreturn, 1) := by decide +kernel
theorem dX5_share_0 : decode cX5_share 0 = .ok (.iload_n 1, 1) := by decide +kernel
theorem dX5_share_1 : decode cX5_share 1 = .ok (.invokestatic 48, 3) := by decide +kernel
theorem dX5_share_4 : decode cX5_share 4 = .ok (.ifCond .ne 5, 3) := by decide +kernel
theorem dX5_share_7 : decode cX5_share 7 = .ok (.iconst (-1), 1) := by decide +kernel
theorem dX5_share_8 : decode cX5_share 8 = .ok (.ireturn, 1) := by decide +kernel
theorem dX5_share_9 : decode cX5_share 9 = .ok (.aload_n 0, 1) := by decide +kernel
theorem dX5_share_10 : decode cX5_share 10 = .ok (.getfield 12, 3) := by decide +kernel
theorem dX5_share_13 : decode cX5_share 13 = .ok (.getfield 59, 3) := by decide +kernel
theorem dX5_share_16 : decode cX5_share 16 = .ok (.iload_n 1, 1) := by decide +kernel
theorem dX5_share_17 : decode cX5_share 17 = .ok (.aaload, 1) := by decide +kernel
theorem dX5_share_18 : decode cX5_share 18 = .ok (.invokevirtual 74, 3) := by decide +kernel
theorem dX5_share_21 : decode cX5_share 21 = .ok (.bipush 23, 2) := by decide +kernel
theorem dX5_share_23 : decode cX5_share 23 = .ok (.bipush 127, 2) := by decide +kernel
theorem dX5_share_25 : decode cX5_share 25 = .ok (.invokestatic 152, 3) := by decide +kernel
theorem dX5_share_28 : decode cX5_share 28 = .ok (.l2i, 1) := by decide +kernel
theorem dX5_share_29 : decode cX5_share 29 = .ok (.ireturn, 1) := by decide +kernel
theorem dX5_count_0 : decode cX5_count 0 = .ok (.iload_n 1, 1) := by decide +kernel
theorem dX5_count_1 : decode cX5_count 1 = .ok (.tableswitch 75 0 4 #[35, 43, 51, 59, 67], 35) := by decide +kernel
theorem dX5_count_36 : decode cX5_count 36 = .ok (.aload_n 0, 1) := by decide +kernel
theorem dX5_count_37 : decode cX5_count 37 = .ok (.getfield 12, 3) := by decide +kernel
theorem dX5_count_40 : decode cX5_count 40 = .ok (.invokevirtual 156, 3) := by decide +kernel
theorem dX5_count_43 : decode cX5_count 43 = .ok (.ireturn, 1) := by decide +kernel
theorem dX5_count_44 : decode cX5_count 44 = .ok (.aload_n 0, 1) := by decide +kernel
theorem dX5_count_45 : decode cX5_count 45 = .ok (.getfield 12, 3) := by decide +kernel
theorem dX5_count_48 : decode cX5_count 48 = .ok (.invokevirtual 157, 3) := by decide +kernel
theorem dX5_count_51 : decode cX5_count 51 = .ok (.ireturn, 1) := by decide +kernel
theorem dX5_count_52 : decode cX5_count 52 = .ok (.aload_n 0, 1) := by decide +kernel
theorem dX5_count_53 : decode cX5_count 53 = .ok (.getfield 12, 3) := by decide +kernel
theorem dX5_count_56 : decode cX5_count 56 = .ok (.getfield 160, 3) := by decide +kernel
theorem dX5_count_59 : decode cX5_count 59 = .ok (.ireturn, 1) := by decide +kernel
theorem dX5_count_60 : decode cX5_count 60 = .ok (.aload_n 0, 1) := by decide +kernel
theorem dX5_count_61 : decode cX5_count 61 = .ok (.getfield 32, 3) := by decide +kernel
theorem dX5_count_64 : decode cX5_count 64 = .ok (.getfield 70, 3) := by decide +kernel
theorem dX5_count_67 : decode cX5_count 67 = .ok (.ireturn, 1) := by decide +kernel
theorem dX5_count_68 : decode cX5_count 68 = .ok (.aload_n 0, 1) := by decide +kernel
theorem dX5_count_69 : decode cX5_count 69 = .ok (.getfield 19, 3) := by decide +kernel
theorem dX5_count_72 : decode cX5_count 72 = .ok (.getfield 163, 3) := by decide +kernel
theorem dX5_count_75 : decode cX5_count 75 = .ok (.ireturn, 1) := by decide +kernel
theorem dX5_count_76 : decode cX5_count 76 = .ok (.bipush (-2), 2) := by decide +kernel
theorem dX5_count_78 : decode cX5_count 78 = .ok (.ireturn, 1) := by decide +kernel
theorem dX5_far_0 : decode cX5_far 0 = .ok (.iload_n 1, 1) := by decide +kernel
theorem dX5_far_1 : decode cX5_far 1 = .ok (.invokestatic 48, 3) := by decide +kernel
theorem dX5_far_4 : decode cX5_far 4 = .ok (.ifCond .eq 10, 3) := by decide +kernel
theorem dX5_far_7 : decode cX5_far 7 = .ok (.iload_n 2, 1) := by decide +kernel
theorem dX5_far_8 : decode cX5_far 8 = .ok (.invokestatic 48, 3) := by decide +kernel
theorem dX5_far_11 : decode cX5_far 11 = .ok (.ifCond .ne 5, 3) := by decide +kernel
theorem dX5_far_14 : decode cX5_far 14 = .ok (.iconst (-1), 1) := by decide +kernel
theorem dX5_far_15 : decode cX5_far 15 = .ok (.ireturn, 1) := by decide +kernel
theorem dX5_far_16 : decode cX5_far 16 = .ok (.aload_n 0, 1) := by decide +kernel
theorem dX5_far_17 : decode cX5_far 17 = .ok (.getfield 12, 3) := by decide +kernel
theorem dX5_far_20 : decode cX5_far 20 = .ok (.getfield 59, 3) := by decide +kernel
theorem dX5_far_23 : decode cX5_far 23 = .ok (.iload_n 1, 1) := by decide +kernel
theorem dX5_far_24 : decode cX5_far 24 = .ok (.aaload, 1) := by decide +kernel
theorem dX5_far_25 : decode cX5_far 25 = .ok (.aload_n 0, 1) := by decide +kernel
theorem dX5_far_26 : decode cX5_far 26 = .ok (.getfield 12, 3) := by decide +kernel
theorem dX5_far_29 : decode cX5_far 29 = .ok (.getfield 59, 3) := by decide +kernel
theorem dX5_far_32 : decode cX5_far 32 = .ok (.iload_n 2, 1) := by decide +kernel
theorem dX5_far_33 : decode cX5_far 33 = .ok (.aaload, 1) := by decide +kernel
theorem dX5_far_34 : decode cX5_far 34 = .ok (.invokevirtual 164, 3) := by decide +kernel
theorem dX5_far_37 : decode cX5_far 37 = .ok (.ireturn, 1) := by decide +kernel
theorem dX5_wouldTake_0 : decode cX5_wouldTake 0 = .ok (.iload_n 1, 1) := by decide +kernel
theorem dX5_wouldTake_1 : decode cX5_wouldTake 1 = .ok (.invokestatic 48, 3) := by decide +kernel
theorem dX5_wouldTake_4 : decode cX5_wouldTake 4 = .ok (.ifCond .ne 5, 3) := by decide +kernel
theorem dX5_wouldTake_7 : decode cX5_wouldTake 7 = .ok (.iconst (-1), 1) := by decide +kernel
theorem dX5_wouldTake_8 : decode cX5_wouldTake 8 = .ok (.ireturn, 1) := by decide +kernel
theorem dX5_wouldTake_9 : decode cX5_wouldTake 9 = .ok (.aload_n 0, 1) := by decide +kernel
theorem dX5_wouldTake_10 : decode cX5_wouldTake 10 = .ok (.getfield 39, 3) := by decide +kernel
theorem dX5_wouldTake_13 : decode cX5_wouldTake 13 = .ok (.aload_n 0, 1) := by decide +kernel
theorem dX5_wouldTake_14 : decode cX5_wouldTake 14 = .ok (.getfield 12, 3) := by decide +kernel
theorem dX5_wouldTake_17 : decode cX5_wouldTake 17 = .ok (.getfield 59, 3) := by decide +kernel
theorem dX5_wouldTake_20 : decode cX5_wouldTake 20 = .ok (.iload_n 1, 1) := by decide +kernel
theorem dX5_wouldTake_21 : decode cX5_wouldTake 21 = .ok (.aaload, 1) := by decide +kernel
theorem dX5_wouldTake_22 : decode cX5_wouldTake 22 = .ok (.invokevirtual 66, 3) := by decide +kernel
theorem dX5_wouldTake_25 : decode cX5_wouldTake 25 = .ok (.aload_n 0, 1) := by decide +kernel
theorem dX5_wouldTake_26 : decode cX5_wouldTake 26 = .ok (.getfield 39, 3) := by decide +kernel
theorem dX5_wouldTake_29 : decode cX5_wouldTake 29 = .ok (.invokevirtual 95, 3) := by decide +kernel
theorem dX5_wouldTake_32 : decode cX5_wouldTake 32 = .ok (.ireturn, 1) := by decide +kernel
theorem dX5_isOne_0 : decode cX5_isOne 0 = .ok (.iload_n 1, 1) := by decide +kernel
theorem dX5_isOne_1 : decode cX5_isOne 1 = .ok (.invokestatic 48, 3) := by decide +kernel
theorem dX5_isOne_4 : decode cX5_isOne 4 = .ok (.ifCond .ne 5, 3) := by decide +kernel
theorem dX5_isOne_7 : decode cX5_isOne 7 = .ok (.iconst (-1), 1) := by decide +kernel
theorem dX5_isOne_8 : decode cX5_isOne 8 = .ok (.ireturn, 1) := by decide +kernel
theorem dX5_isOne_9 : decode cX5_isOne 9 = .ok (.iload 4, 2) := by decide +kernel
theorem dX5_isOne_11 : decode cX5_isOne 11 = .ok (.iconst 2, 1) := by decide +kernel
theorem dX5_isOne_12 : decode cX5_isOne 12 = .ok (.if_icmp .eq 26, 3) := by decide +kernel
theorem dX5_isOne_15 : decode cX5_isOne 15 = .ok (.iload 4, 2) := by decide +kernel
theorem dX5_isOne_17 : decode cX5_isOne 17 = .ok (.iconst 4, 1) := by decide +kernel
theorem dX5_isOne_18 : decode cX5_isOne 18 = .ok (.if_icmp .eq 20, 3) := by decide +kernel
theorem dX5_isOne_21 : decode cX5_isOne 21 = .ok (.iload 4, 2) := by decide +kernel
theorem dX5_isOne_23 : decode cX5_isOne 23 = .ok (.bipush 8, 2) := by decide +kernel
theorem dX5_isOne_25 : decode cX5_isOne 25 = .ok (.if_icmp .eq 13, 3) := by decide +kernel
theorem dX5_isOne_28 : decode cX5_isOne 28 = .ok (.iload 4, 2) := by decide +kernel
theorem dX5_isOne_30 : decode cX5_isOne 30 = .ok (.bipush 16, 2) := by decide +kernel
theorem dX5_isOne_32 : decode cX5_isOne 32 = .ok (.if_icmp .eq 6, 3) := by decide +kernel
theorem dX5_isOne_35 : decode cX5_isOne 35 = .ok (.bipush (-2), 2) := by decide +kernel
theorem dX5_isOne_37 : decode cX5_isOne 37 = .ok (.ireturn, 1) := by decide +kernel
theorem dX5_isOne_38 : decode cX5_isOne 38 = .ok (.iload_n 2, 1) := by decide +kernel
theorem dX5_isOne_39 : decode cX5_isOne 39 = .ok (.iload 4, 2) := by decide +kernel
theorem dX5_isOne_41 : decode cX5_isOne 41 = .ok (.invokestatic 168, 3) := by decide +kernel
theorem dX5_isOne_44 : decode cX5_isOne 44 = .ok (.ifCond .eq 12, 3) := by decide +kernel
theorem dX5_isOne_47 : decode cX5_isOne 47 = .ok (.iload_n 3, 1) := by decide +kernel
theorem dX5_isOne_48 : decode cX5_isOne 48 = .ok (.iload 4, 2) := by decide +kernel
theorem dX5_isOne_50 : decode cX5_isOne 50 = .ok (.invokestatic 168, 3) := by decide +kernel
theorem dX5_isOne_53 : decode cX5_isOne 53 = .ok (.ifCond .ne 6, 3) := by decide +kernel
theorem dX5_isOne_56 : decode cX5_isOne 56 = .ok (.bipush (-2), 2) := by decide +kernel
theorem dX5_isOne_58 : decode cX5_isOne 58 = .ok (.ireturn, 1) := by decide +kernel
theorem dX5_isOne_59 : decode cX5_isOne 59 = .ok (.aload_n 0, 1) := by decide +kernel
theorem dX5_isOne_60 : decode cX5_isOne 60 = .ok (.getfield 12, 3) := by decide +kernel
theorem dX5_isOne_63 : decode cX5_isOne 63 = .ok (.getfield 59, 3) := by decide +kernel
theorem dX5_isOne_66 : decode cX5_isOne 66 = .ok (.iload_n 1, 1) := by decide +kernel
theorem dX5_isOne_67 : decode cX5_isOne 67 = .ok (.aaload, 1) := by decide +kernel
theorem dX5_isOne_68 : decode cX5_isOne 68 = .ok (.iload_n 2, 1) := by decide +kernel
theorem dX5_isOne_69 : decode cX5_isOne 69 = .ok (.iload_n 3, 1) := by decide +kernel
theorem dX5_isOne_70 : decode cX5_isOne 70 = .ok (.iload 4, 2) := by decide +kernel
theorem dX5_isOne_72 : decode cX5_isOne 72 = .ok (.invokevirtual 171, 3) := by decide +kernel
theorem dX5_isOne_75 : decode cX5_isOne 75 = .ok (.ireturn, 1) := by decide +kernel
theorem dX5_bestTimes_0 : decode cX5_bestTimes 0 = .ok (.iload_n 1, 1) := by decide +kernel
theorem dX5_bestTimes_1 : decode cX5_bestTimes 1 = .ok (.invokestatic 48, 3) := by decide +kernel
theorem dX5_bestTimes_4 : decode cX5_bestTimes 4 = .ok (.ifCond .eq 10, 3) := by decide +kernel
theorem dX5_bestTimes_7 : decode cX5_bestTimes 7 = .ok (.iload_n 2, 1) := by decide +kernel
theorem dX5_bestTimes_8 : decode cX5_bestTimes 8 = .ok (.invokestatic 48, 3) := by decide +kernel
theorem dX5_bestTimes_11 : decode cX5_bestTimes 11 = .ok (.ifCond .ne 5, 3) := by decide +kernel
theorem dX5_bestTimes_14 : decode cX5_bestTimes 14 = .ok (.iconst (-1), 1) := by decide +kernel
theorem dX5_bestTimes_15 : decode cX5_bestTimes 15 = .ok (.ireturn, 1) := by decide +kernel
theorem dX5_bestTimes_16 : decode cX5_bestTimes 16 = .ok (.iload_n 3, 1) := by decide +kernel
theorem dX5_bestTimes_17 : decode cX5_bestTimes 17 = .ok (.ifCond .eq 8, 3) := by decide +kernel
theorem dX5_bestTimes_20 : decode cX5_bestTimes 20 = .ok (.iload_n 3, 1) := by decide +kernel
theorem dX5_bestTimes_21 : decode cX5_bestTimes 21 = .ok (.iconst 1, 1) := by decide +kernel
theorem dX5_bestTimes_22 : decode cX5_bestTimes 22 = .ok (.if_icmp .ne 8, 3) := by decide +kernel
theorem dX5_bestTimes_25 : decode cX5_bestTimes 25 = .ok (.iload_n 1, 1) := by decide +kernel
theorem dX5_bestTimes_26 : decode cX5_bestTimes 26 = .ok (.iload_n 2, 1) := by decide +kernel
theorem dX5_bestTimes_27 : decode cX5_bestTimes 27 = .ok (.if_icmp .ne 6, 3) := by decide +kernel
theorem dX5_bestTimes_30 : decode cX5_bestTimes 30 = .ok (.bipush (-2), 2) := by decide +kernel
theorem dX5_bestTimes_32 : decode cX5_bestTimes 32 = .ok (.ireturn, 1) := by decide +kernel
theorem dX5_bestTimes_33 : decode cX5_bestTimes 33 = .ok (.aload_n 0, 1) := by decide +kernel
theorem dX5_bestTimes_34 : decode cX5_bestTimes 34 = .ok (.aload_n 0, 1) := by decide +kernel
theorem dX5_bestTimes_35 : decode cX5_bestTimes 35 = .ok (.getfield 12, 3) := by decide +kernel
theorem dX5_bestTimes_38 : decode cX5_bestTimes 38 = .ok (.getfield 59, 3) := by decide +kernel
theorem dX5_bestTimes_41 : decode cX5_bestTimes 41 = .ok (.iload_n 1, 1) := by decide +kernel
theorem dX5_bestTimes_42 : decode cX5_bestTimes 42 = .ok (.aaload, 1) := by decide +kernel
theorem dX5_bestTimes_43 : decode cX5_bestTimes 43 = .ok (.aload_n 0, 1) := by decide +kernel
theorem dX5_bestTimes_44 : decode cX5_bestTimes 44 = .ok (.getfield 12, 3) := by decide +kernel
theorem dX5_bestTimes_47 : decode cX5_bestTimes 47 = .ok (.getfield 59, 3) := by decide +kernel
theorem dX5_bestTimes_50 : decode cX5_bestTimes 50 = .ok (.iload_n 2, 1) := by decide +kernel
theorem dX5_bestTimes_51 : decode cX5_bestTimes 51 = .ok (.aaload, 1) := by decide +kernel
theorem dX5_bestTimes_52 : decode cX5_bestTimes 52 = .ok (.invokevirtual 174, 3) := by decide +kernel
theorem dX5_bestTimes_55 : decode cX5_bestTimes 55 = .ok (.bipush (-99), 2) := by decide +kernel
theorem dX5_bestTimes_57 : decode cX5_bestTimes 57 = .ok (.istore 4, 2) := by decide +kernel
theorem dX5_bestTimes_59 : decode cX5_bestTimes 59 = .ok (.bipush (-99), 2) := by decide +kernel
theorem dX5_bestTimes_61 : decode cX5_bestTimes 61 = .ok (.istore 5, 2) := by decide +kernel
theorem dX5_bestTimes_63 : decode cX5_bestTimes 63 = .ok (.iload 5, 2) := by decide +kernel
theorem dX5_bestTimes_65 : decode cX5_bestTimes 65 = .ok (.bipush 99, 2) := by decide +kernel
theorem dX5_bestTimes_67 : decode cX5_bestTimes 67 = .ok (.if_icmp .gt 41, 3) := by decide +kernel
theorem dX5_bestTimes_70 : decode cX5_bestTimes 70 = .ok (.iload 5, 2) := by decide +kernel
theorem dX5_bestTimes_72 : decode cX5_bestTimes 72 = .ok (.ifCond .eq 30, 3) := by decide +kernel
theorem dX5_bestTimes_75 : decode cX5_bestTimes 75 = .ok (.aload_n 0, 1) := by decide +kernel
theorem dX5_bestTimes_76 : decode cX5_bestTimes 76 = .ok (.getfield 43, 3) := by decide +kernel
theorem dX5_bestTimes_79 : decode cX5_bestTimes 79 = .ok (.iload 5, 2) := by decide +kernel
theorem dX5_bestTimes_81 : decode cX5_bestTimes 81 = .ok (.bipush 99, 2) := by decide +kernel
theorem dX5_bestTimes_83 : decode cX5_bestTimes 83 = .ok (.iadd, 1) := by decide +kernel
theorem dX5_bestTimes_84 : decode cX5_bestTimes 84 = .ok (.iaload, 1) := by decide +kernel
theorem dX5_bestTimes_85 : decode cX5_bestTimes 85 = .ok (.aload_n 0, 1) := by decide +kernel
theorem dX5_bestTimes_86 : decode cX5_bestTimes 86 = .ok (.getfield 43, 3) := by decide +kernel
theorem dX5_bestTimes_89 : decode cX5_bestTimes 89 = .ok (.iload 4, 2) := by decide +kernel
theorem dX5_bestTimes_91 : decode cX5_bestTimes 91 = .ok (.bipush 99, 2) := by decide +kernel
theorem dX5_bestTimes_93 : decode cX5_bestTimes 93 = .ok (.iadd, 1) := by decide +kernel
theorem dX5_bestTimes_94 : decode cX5_bestTimes 94 = .ok (.iaload, 1) := by decide +kernel
theorem dX5_bestTimes_95 : decode cX5_bestTimes 95 = .ok (.if_icmp .le 7, 3) := by decide +kernel
theorem dX5_bestTimes_98 : decode cX5_bestTimes 98 = .ok (.iload 5, 2) := by decide +kernel
theorem dX5_bestTimes_100 : decode cX5_bestTimes 100 = .ok (.istore 4, 2) := by decide +kernel
theorem dX5_bestTimes_102 : decode cX5_bestTimes 102 = .ok (.iinc 5 1, 3) := by decide +kernel
theorem dX5_bestTimes_105 : decode cX5_bestTimes 105 = .ok (.goto (-42), 3) := by decide +kernel
theorem dX5_bestTimes_108 : decode cX5_bestTimes 108 = .ok (.iload_n 3, 1) := by decide +kernel
theorem dX5_bestTimes_109 : decode cX5_bestTimes 109 = .ok (.ifCond .ne 13, 3) := by decide +kernel
theorem dX5_bestTimes_112 : decode cX5_bestTimes 112 = .ok (.iload 4, 2) := by decide +kernel
theorem dX5_bestTimes_114 : decode cX5_bestTimes 114 = .ok (.bipush 99, 2) := by decide +kernel
theorem dX5_bestTimes_116 : decode cX5_bestTimes 116 = .ok (.iadd, 1) := by decide +kernel
theorem dX5_bestTimes_117 : decode cX5_bestTimes 117 = .ok (.iconst 1, 1) := by decide +kernel
theorem dX5_bestTimes_118 : decode cX5_bestTimes 118 = .ok (.iadd, 1) := by decide +kernel
theorem dX5_bestTimes_119 : decode cX5_bestTimes 119 = .ok (.goto 13, 3) := by decide +kernel
theorem dX5_bestTimes_122 : decode cX5_bestTimes 122 = .ok (.aload_n 0, 1) := by decide +kernel
theorem dX5_bestTimes_123 : decode cX5_bestTimes 123 = .ok (.getfield 43, 3) := by decide +kernel
theorem dX5_bestTimes_126 : decode cX5_bestTimes 126 = .ok (.iload 4, 2) := by decide +kernel
theorem dX5_bestTimes_128 : decode cX5_bestTimes 128 = .ok (.bipush 99, 2) := by decide +kernel
theorem dX5_bestTimes_130 : decode cX5_bestTimes 130 = .ok (.iadd, 1) := by decide +kernel
theorem dX5_bestTimes_131 : decode cX5_bestTimes 131 = .ok (.iaload, 1) := by decide +kernel
theorem dX5_bestTimes_132 : decode cX5_bestTimes 132 = .ok (.ireturn, 1) := by decide +kernel
theorem dX5_put_0 : decode cX5_put 0 = .ok (.lload_n 1, 1) := by decide +kernel
theorem dX5_put_1 : decode cX5_put 1 = .ok (.invokestatic 178, 3) := by decide +kernel
theorem dX5_put_4 : decode cX5_put 4 = .ok (.istore_n 3, 1) := by decide +kernel
theorem dX5_put_5 : decode cX5_put 5 = .ok (.iload_n 3, 1) := by decide +kernel
theorem dX5_put_6 : decode cX5_put 6 = .ok (.ifCond .ne 6, 3) := by decide +kernel
theorem dX5_put_9 : decode cX5_put 9 = .ok (.bipush (-2), 2) := by decide +kernel
theorem dX5_put_11 : decode cX5_put 11 = .ok (.ireturn, 1) := by decide +kernel
theorem dX5_put_12 : decode cX5_put 12 = .ok (.iload_n 3, 1) := by decide +kernel
theorem dX5_put_13 : decode cX5_put 13 = .ok (.bipush 80, 2) := by decide +kernel
theorem dX5_put_15 : decode cX5_put 15 = .ok (.aload_n 0, 1) := by decide +kernel
theorem dX5_put_16 : decode cX5_put 16 = .ok (.getfield 32, 3) := by decide +kernel
theorem dX5_put_19 : decode cX5_put 19 = .ok (.getfield 70, 3) := by decide +kernel
theorem dX5_put_22 : decode cX5_put 22 = .ok (.isub, 1) := by decide +kernel
theorem dX5_put_23 : decode cX5_put 23 = .ok (.if_icmp .le 6, 3) := by decide +kernel
theorem dX5_put_26 : decode cX5_put 26 = .ok (.bipush (-4), 2) := by decide +kernel
theorem dX5_put_28 : decode cX5_put 28 = .ok (.ireturn, 1) := by decide +kernel
theorem dX5_put_29 : decode cX5_put 29 = .ok (.iload_n 3, 1) := by decide +kernel
theorem dX5_put_30 : decode cX5_put 30 = .ok (.iconst 1, 1) := by decide +kernel
theorem dX5_put_31 : decode cX5_put 31 = .ok (.isub, 1) := by decide +kernel
theorem dX5_put_32 : decode cX5_put 32 = .ok (.istore 4, 2) := by decide +kernel
theorem dX5_put_34 : decode cX5_put 34 = .ok (.iload 4, 2) := by decide +kernel
theorem dX5_put_36 : decode cX5_put 36 = .ok (.ifCond .lt 29, 3) := by decide +kernel
theorem dX5_put_39 : decode cX5_put 39 = .ok (.aload_n 0, 1) := by decide +kernel
theorem dX5_put_40 : decode cX5_put 40 = .ok (.getfield 32, 3) := by decide +kernel
theorem dX5_put_43 : decode cX5_put 43 = .ok (.lload_n 1, 1) := by decide +kernel
theorem dX5_put_44 : decode cX5_put 44 = .ok (.iload 4, 2) := by decide +kernel
theorem dX5_put_46 : decode cX5_put 46 = .ok (.bipush 8, 2) := by decide +kernel
theorem dX5_put_48 : decode cX5_put 48 = .ok (.imul, 1) := by decide +kernel
theorem dX5_put_49 : decode cX5_put 49 = .ok (.lushr, 1) := by decide +kernel
theorem dX5_put_50 : decode cX5_put 50 = .ok (.ldc2_w 182, 3) := by decide +kernel
theorem dX5_put_53 : decode cX5_put 53 = .ok (.land, 1) := by decide +kernel
theorem dX5_put_54 : decode cX5_put 54 = .ok (.l2i, 1) := by decide +kernel
theorem dX5_put_55 : decode cX5_put 55 = .ok (.i2c, 1) := by decide +kernel
theorem dX5_put_56 : decode cX5_put 56 = .ok (.invokevirtual 184, 3) := by decide +kernel
theorem dX5_put_59 : decode cX5_put 59 = .ok (.iinc 4 (-1), 3) := by decide +kernel
theorem dX5_put_62 : decode cX5_put 62 = .ok (.goto (-28), 3) := by decide +kernel
theorem dX5_put_65 : decode cX5_put 65 = .ok (.aload_n 0, 1) := by decide +kernel
theorem dX5_put_66 : decode cX5_put 66 = .ok (.getfield 32, 3) := by decide +kernel
theorem dX5_put_69 : decode cX5_put 69 = .ok (.getfield 70, 3) := by decide +kernel
theorem dX5_put_72 : decode cX5_put 72 = .ok (.ireturn, 1) := by decide +kernel
theorem dX5_wipe_0 : decode cX5_wipe 0 = .ok (.aload_n 0, 1) := by decide +kernel
theorem dX5_wipe_1 : decode cX5_wipe 1 = .ok (.getfield 32, 3) := by decide +kernel
theorem dX5_wipe_4 : decode cX5_wipe 4 = .ok (.getfield 70, 3) := by decide +kernel
theorem dX5_wipe_7 : decode cX5_wipe 7 = .ok (.istore_n 1, 1) := by decide +kernel
theorem dX5_wipe_8 : decode cX5_wipe 8 = .ok (.aload_n 0, 1) := by decide +kernel
theorem dX5_wipe_9 : decode cX5_wipe 9 = .ok (.getfield 32, 3) := by decide +kernel
theorem dX5_wipe_12 : decode cX5_wipe 12 = .ok (.iconst 0, 1) := by decide +kernel
theorem dX5_wipe_13 : decode cX5_wipe 13 = .ok (.putfield 70, 3) := by decide +kernel
theorem dX5_wipe_16 : decode cX5_wipe 16 = .ok (.iload_n 1, 1) := by decide +kernel
theorem dX5_wipe_17 : decode cX5_wipe 17 = .ok (.ireturn, 1) := by decide +kernel
theorem dX5_fault_0 : decode cX5_fault 0 = .ok (.aload_n 0, 1) := by decide +kernel
theorem dX5_fault_1 : decode cX5_fault 1 = .ok (.getfield 32, 3) := by decide +kernel
theorem dX5_fault_4 : decode cX5_fault 4 = .ok (.invokevirtual 52, 3) := by decide +kernel
theorem dX5_fault_7 : decode cX5_fault 7 = .ok (.ifCond .eq 8, 3) := by decide +kernel
theorem dX5_fault_10 : decode cX5_fault 10 = .ok (.bipush (-6), 2) := by decide +kernel
theorem dX5_fault_12 : decode cX5_fault 12 = .ok (.goto 10, 3) := by decide +kernel
theorem dX5_fault_15 : decode cX5_fault 15 = .ok (.aload_n 0, 1) := by decide +kernel
theorem dX5_fault_16 : decode cX5_fault 16 = .ok (.getfield 32, 3) := by decide +kernel
theorem dX5_fault_19 : decode cX5_fault 19 = .ok (.getfield 188, 3) := by decide +kernel
theorem dX5_fault_22 : decode cX5_fault 22 = .ok (.ireturn, 1) := by decide +kernel
theorem dX5_undo_0 : decode cX5_undo 0 = .ok (.aload_n 0, 1) := by decide +kernel
theorem dX5_undo_1 : decode cX5_undo 1 = .ok (.getfield 19, 3) := by decide +kernel
theorem dX5_undo_4 : decode cX5_undo 4 = .ok (.getfield 163, 3) := by decide +kernel
theorem dX5_undo_7 : decode cX5_undo 7 = .ok (.ifCond .ne 6, 3) := by decide +kernel
theorem dX5_undo_10 : decode cX5_undo 10 = .ok (.bipush (-5), 2) := by decide +kernel
theorem dX5_undo_12 : decode cX5_undo 12 = .ok (.ireturn, 1) := by decide +kernel
theorem dX5_undo_13 : decode cX5_undo 13 = .ok (.aload_n 0, 1) := by decide +kernel
theorem dX5_undo_14 : decode cX5_undo 14 = .ok (.getfield 19, 3) := by decide +kernel
theorem dX5_undo_17 : decode cX5_undo 17 = .ok (.aload_n 0, 1) := by decide +kernel
theorem dX5_undo_18 : decode cX5_undo 18 = .ok (.getfield 12, 3) := by decide +kernel
theorem dX5_undo_21 : decode cX5_undo 21 = .ok (.invokevirtual 191, 3) := by decide +kernel
theorem dX5_undo_24 : decode cX5_undo 24 = .ok (.aload_n 0, 1) := by decide +kernel
theorem dX5_undo_25 : decode cX5_undo 25 = .ok (.getfield 19, 3) := by decide +kernel
theorem dX5_undo_28 : decode cX5_undo 28 = .ok (.getfield 163, 3) := by decide +kernel
theorem dX5_undo_31 : decode cX5_undo 31 = .ok (.ireturn, 1) := by decide +kernel
theorem dX5_save_0 : decode cX5_save 0 = .ok (.iload_n 1, 1) := by decide +kernel
theorem dX5_save_1 : decode cX5_save 1 = .ok (.invokestatic 195, 3) := by decide +kernel
theorem dX5_save_4 : decode cX5_save 4 = .ok (.ifCond .ne 6, 3) := by decide +kernel
theorem dX5_save_7 : decode cX5_save 7 = .ok (.bipush (-2), 2) := by decide +kernel
theorem dX5_save_9 : decode cX5_save 9 = .ok (.ireturn, 1) := by decide +kernel
theorem dX5_save_10 : decode cX5_save 10 = .ok (.aload_n 0, 1) := by decide +kernel
theorem dX5_save_11 : decode cX5_save 11 = .ok (.getfield 25, 3) := by decide +kernel
theorem dX5_save_14 : decode cX5_save 14 = .ok (.iload_n 1, 1) := by decide +kernel
theorem dX5_save_15 : decode cX5_save 15 = .ok (.aaload, 1) := by decide +kernel
theorem dX5_save_16 : decode cX5_save 16 = .ok (.getfield 198, 3) := by decide +kernel
theorem dX5_save_19 : decode cX5_save 19 = .ok (.aload_n 0, 1) := by decide +kernel
theorem dX5_save_20 : decode cX5_save 20 = .ok (.getfield 12, 3) := by decide +kernel
theorem dX5_save_23 : decode cX5_save 23 = .ok (.invokevirtual 201, 3) := by decide +kernel
theorem dX5_save_26 : decode cX5_save 26 = .ok (.aload_n 0, 1) := by decide +kernel
theorem dX5_save_27 : decode cX5_save 27 = .ok (.getfield 25, 3) := by decide +kernel
theorem dX5_save_30 : decode cX5_save 30 = .ok (.iload_n 1, 1) := by decide +kernel
theorem dX5_save_31 : decode cX5_save 31 = .ok (.aaload, 1) := by decide +kernel
theorem dX5_save_32 : decode cX5_save 32 = .ok (.iconst 1, 1) := by decide +kernel
theorem dX5_save_33 : decode cX5_save 33 = .ok (.putfield 203, 3) := by decide +kernel
theorem dX5_save_36 : decode cX5_save 36 = .ok (.aload_n 0, 1) := by decide +kernel
theorem dX5_save_37 : decode cX5_save 37 = .ok (.getfield 12, 3) := by decide +kernel
theorem dX5_save_40 : decode cX5_save 40 = .ok (.invokevirtual 156, 3) := by decide +kernel
theorem dX5_save_43 : decode cX5_save 43 = .ok (.ireturn, 1) := by decide +kernel
theorem dX5_restore_0 : decode cX5_restore 0 = .ok (.iload_n 1, 1) := by decide +kernel
theorem dX5_restore_1 : decode cX5_restore 1 = .ok (.invokestatic 195, 3) := by decide +kernel
theorem dX5_restore_4 : decode cX5_restore 4 = .ok (.ifCond .ne 6, 3) := by decide +kernel
theorem dX5_restore_7 : decode cX5_restore 7 = .ok (.bipush (-2), 2) := by decide +kernel
theorem dX5_restore_9 : decode cX5_restore 9 = .ok (.ireturn, 1) := by decide +kernel
theorem dX5_restore_10 : decode cX5_restore 10 = .ok (.aload_n 0, 1) := by decide +kernel
theorem dX5_restore_11 : decode cX5_restore 11 = .ok (.getfield 25, 3) := by decide +kernel
theorem dX5_restore_14 : decode cX5_restore 14 = .ok (.iload_n 1, 1) := by decide +kernel
theorem dX5_restore_15 : decode cX5_restore 15 = .ok (.aaload, 1) := by decide +kernel
theorem dX5_restore_16 : decode cX5_restore 16 = .ok (.getfield 203, 3) := by decide +kernel
theorem dX5_restore_19 : decode cX5_restore 19 = .ok (.ifCond .ne 6, 3) := by decide +kernel
theorem dX5_restore_22 : decode cX5_restore 22 = .ok (.bipush (-5), 2) := by decide +kernel
theorem dX5_restore_24 : decode cX5_restore 24 = .ok (.ireturn, 1) := by decide +kernel
theorem dX5_restore_25 : decode cX5_restore 25 = .ok (.aload_n 0, 1) := by decide +kernel
theorem dX5_restore_26 : decode cX5_restore 26 = .ok (.getfield 19, 3) := by decide +kernel
theorem dX5_restore_29 : decode cX5_restore 29 = .ok (.aload_n 0, 1) := by decide +kernel
theorem dX5_restore_30 : decode cX5_restore 30 = .ok (.getfield 12, 3) := by decide +kernel
theorem dX5_restore_33 : decode cX5_restore 33 = .ok (.invokevirtual 207, 3) := by decide +kernel
theorem dX5_restore_36 : decode cX5_restore 36 = .ok (.aload_n 0, 1) := by decide +kernel
theorem dX5_restore_37 : decode cX5_restore 37 = .ok (.getfield 12, 3) := by decide +kernel
theorem dX5_restore_40 : decode cX5_restore 40 = .ok (.aload_n 0, 1) := by decide +kernel
theorem dX5_restore_41 : decode cX5_restore 41 = .ok (.getfield 25, 3) := by decide +kernel
theorem dX5_restore_44 : decode cX5_restore 44 = .ok (.iload_n 1, 1) := by decide +kernel
theorem dX5_restore_45 : decode cX5_restore 45 = .ok (.aaload, 1) := by decide +kernel
theorem dX5_restore_46 : decode cX5_restore 46 = .ok (.getfield 198, 3) := by decide +kernel
theorem dX5_restore_49 : decode cX5_restore 49 = .ok (.invokevirtual 201, 3) := by decide +kernel
theorem dX5_restore_52 : decode cX5_restore 52 = .ok (.aload_n 0, 1) := by decide +kernel
theorem dX5_restore_53 : decode cX5_restore 53 = .ok (.getfield 12, 3) := by decide +kernel
theorem dX5_restore_56 : decode cX5_restore 56 = .ok (.invokevirtual 156, 3) := by decide +kernel
theorem dX5_restore_59 : decode cX5_restore 59 = .ok (.ireturn, 1) := by decide +kernel
theorem dX5_beginChange_0 : decode cX5_beginChange 0 = .ok (.aload_n 0, 1) := by decide +kernel
theorem dX5_beginChange_1 : decode cX5_beginChange 1 = .ok (.getfield 19, 3) := by decide +kernel
theorem dX5_beginChange_4 : decode cX5_beginChange 4 = .ok (.aload_n 0, 1) := by decide +kernel
theorem dX5_beginChange_5 : decode cX5_beginChange 5 = .ok (.getfield 12, 3) := by decide +kernel
theorem dX5_beginChange_8 : decode cX5_beginChange 8 = .ok (.invokevirtual 207, 3) := by decide +kernel
theorem dX5_beginChange_11 : decode cX5_beginChange 11 = .ok (.aload_n 0, 1) := by decide +kernel
theorem dX5_beginChange_12 : decode cX5_beginChange 12 = .ok (.getfield 12, 3) := by decide +kernel
theorem dX5_beginChange_15 : decode cX5_beginChange 15 = .ok (.dup, 1) := by decide +kernel
theorem dX5_beginChange_16 : decode cX5_beginChange 16 = .ok (.getfield 160, 3) := by decide +kernel
theorem dX5_beginChange_19 : decode cX5_beginChange 19 = .ok (.iconst 1, 1) := by decide +kernel
theorem dX5_beginChange_20 : decode cX5_beginChange 20 = .ok (.iadd, 1) := by decide +kernel
theorem dX5_beginChange_21 : decode cX5_beginChange 21 = .ok (.putfield 160, 3) := by decide +kernel
theorem dX5_beginChange_24 : decode cX5_beginChange 24 = .ok (.return_, 1) := by decide +kernel
theorem dX5_isMatrix_0 : decode cX5_isMatrix 0 = .ok (.iload_n 0, 1) := by decide +kernel
theorem dX5_isMatrix_1 : decode cX5_isMatrix 1 = .ok (.ifCond .lt 12, 3) := by decide +kernel
theorem dX5_isMatrix_4 : decode cX5_isMatrix 4 = .ok (.iload_n 0, 1) := by decide +kernel
theorem dX5_isMatrix_5 : decode cX5_isMatrix 5 = .ok (.iconst 4, 1) := by decide +kernel
theorem dX5_isMatrix_6 : decode cX5_isMatrix 6 = .ok (.if_icmp .ge 7, 3) := by decide +kernel
theorem dX5_isMatrix_9 : decode cX5_isMatrix 9 = .ok (.iconst 1, 1) := by decide +kernel
theorem dX5_isMatrix_10 : decode cX5_isMatrix 10 = .ok (.goto 4, 3) := by decide +kernel
theorem dX5_isMatrix_13 : decode cX5_isMatrix 13 = .ok (.iconst 0, 1) := by decide +kernel
theorem dX5_isMatrix_14 : decode cX5_isMatrix 14 = .ok (.ireturn, 1) := by decide +kernel
theorem dX5_isSlot_0 : decode cX5_isSlot 0 = .ok (.iload_n 0, 1) := by decide +kernel
theorem dX5_isSlot_1 : decode cX5_isSlot 1 = .ok (.ifCond .lt 12, 3) := by decide +kernel
theorem dX5_isSlot_4 : decode cX5_isSlot 4 = .ok (.iload_n 0, 1) := by decide +kernel
theorem dX5_isSlot_5 : decode cX5_isSlot 5 = .ok (.iconst 2, 1) := by decide +kernel
theorem dX5_isSlot_6 : decode cX5_isSlot 6 = .ok (.if_icmp .ge 7, 3) := by decide +kernel
theorem dX5_isSlot_9 : decode cX5_isSlot 9 = .ok (.iconst 1, 1) := by decide +kernel
theorem dX5_isSlot_10 : decode cX5_isSlot 10 = .ok (.goto 4, 3) := by decide +kernel
theorem dX5_isSlot_13 : decode cX5_isSlot 13 = .ok (.iconst 0, 1) := by decide +kernel
theorem dX5_isSlot_14 : decode cX5_isSlot 14 = .ok (.ireturn, 1) := by decide +kernel
theorem dX5_isPlace_0 : decode cX5_isPlace 0 = .ok (.iload_n 0, 1) := by decide +kernel
theorem dX5_isPlace_1 : decode cX5_isPlace 1 = .ok (.invokestatic 48, 3) := by decide +kernel
theorem dX5_isPlace_4 : decode cX5_isPlace 4 = .ok (.ifCond .eq 27, 3) := by decide +kernel
theorem dX5_isPlace_7 : decode cX5_isPlace 7 = .ok (.iload_n 1, 1) := by decide +kernel
theorem dX5_isPlace_8 : decode cX5_isPlace 8 = .ok (.ifCond .lt 23, 3) := by decide +kernel
theorem dX5_isPlace_11 : decode cX5_isPlace 11 = .ok (.iload_n 1, 1) := by decide +kernel
theorem dX5_isPlace_12 : decode cX5_isPlace 12 = .ok (.bipush 16, 2) := by decide +kernel
theorem dX5_isPlace_14 : decode cX5_isPlace 14 = .ok (.if_icmp .ge 17, 3) := by decide +kernel
theorem dX5_isPlace_17 : decode cX5_isPlace 17 = .ok (.iload_n 2, 1) := by decide +kernel
theorem dX5_isPlace_18 : decode cX5_isPlace 18 = .ok (.ifCond .lt 13, 3) := by decide +kernel
theorem dX5_isPlace_21 : decode cX5_isPlace 21 = .ok (.iload_n 2, 1) := by decide +kernel
theorem dX5_isPlace_22 : decode cX5_isPlace 22 = .ok (.bipush 16, 2) := by decide +kernel
theorem dX5_isPlace_24 : decode cX5_isPlace 24 = .ok (.if_icmp .ge 7, 3) := by decide +kernel
theorem dX5_isPlace_27 : decode cX5_isPlace 27 = .ok (.iconst 1, 1) := by decide +kernel
theorem dX5_isPlace_28 : decode cX5_isPlace 28 = .ok (.goto 4, 3) := by decide +kernel
theorem dX5_isPlace_31 : decode cX5_isPlace 31 = .ok (.iconst 0, 1) := by decide +kernel
theorem dX5_isPlace_32 : decode cX5_isPlace 32 = .ok (.ireturn, 1) := by decide +kernel
theorem dX5_isWithin_0 : decode cX5_isWithin 0 = .ok (.iload_n 0, 1) := by decide +kernel
theorem dX5_isWithin_1 : decode cX5_isWithin 1 = .ok (.iload_n 1, 1) := by decide +kernel
theorem dX5_isWithin_2 : decode cX5_isWithin 2 = .ok (.ineg, 1) := by decide +kernel
theorem dX5_isWithin_3 : decode cX5_isWithin 3 = .ok (.if_icmp .lt 12, 3) := by decide +kernel
theorem dX5_isWithin_6 : decode cX5_isWithin 6 = .ok (.iload_n 0, 1) := by decide +kernel
theorem dX5_isWithin_7 : decode cX5_isWithin 7 = .ok (.iload_n 1, 1) := by decide +kernel
theorem dX5_isWithin_8 : decode cX5_isWithin 8 = .ok (.if_icmp .gt 7, 3) := by decide +kernel
theorem dX5_isWithin_11 : decode cX5_isWithin 11 = .ok (.iconst 1, 1) := by decide +kernel
theorem dX5_isWithin_12 : decode cX5_isWithin 12 = .ok (.goto 4, 3) := by decide +kernel
theorem dX5_isWithin_15 : decode cX5_isWithin 15 = .ok (.iconst 0, 1) := by decide +kernel
theorem dX5_isWithin_16 : decode cX5_isWithin 16 = .ok (.ireturn, 1) := by decide +kernel
theorem dX5_isSquareEdge_0 : decode cX5_isSquareEdge 0 = .ok (.iload_n 1, 1) := by decide +kernel
theorem dX5_isSquareEdge_1 : decode cX5_isSquareEdge 1 = .ok (.ifCond .le 25, 3) := by decide +kernel
theorem dX5_isSquareEdge_4 : decode cX5_isSquareEdge 4 = .ok (.iload_n 0, 1) := by decide +kernel
theorem dX5_isSquareEdge_5 : decode cX5_isSquareEdge 5 = .ok (.ifCond .lt 21, 3) := by decide +kernel
theorem dX5_isSquareEdge_8 : decode cX5_isSquareEdge 8 = .ok (.iload_n 0, 1) := by decide +kernel
theorem dX5_isSquareEdge_9 : decode cX5_isSquareEdge 9 = .ok (.bipush 16, 2) := by decide +kernel
theorem dX5_isSquareEdge_11 : decode cX5_isSquareEdge 11 = .ok (.iload_n 1, 1) := by decide +kernel
theorem dX5_isSquareEdge_12 : decode cX5_isSquareEdge 12 = .ok (.isub, 1) := by decide +kernel
theorem dX5_isSquareEdge_13 : decode cX5_isSquareEdge 13 = .ok (.if_icmp .gt 13, 3) := by decide +kernel
theorem dX5_isSquareEdge_16 : decode cX5_isSquareEdge 16 = .ok (.iload_n 0, 1) := by decide +kernel
theorem dX5_isSquareEdge_17 : decode cX5_isSquareEdge 17 = .ok (.iload_n 1, 1) := by decide +kernel
theorem dX5_isSquareEdge_18 : decode cX5_isSquareEdge 18 = .ok (.irem, 1) := by decide +kernel
theorem dX5_isSquareEdge_19 : decode cX5_isSquareEdge 19 = .ok (.ifCond .ne 7, 3) := by decide +kernel
theorem dX5_isSquareEdge_22 : decode cX5_isSquareEdge 22 = .ok (.iconst 1, 1) := by decide +kernel
theorem dX5_isSquareEdge_23 : decode cX5_isSquareEdge 23 = .ok (.goto 4, 3) := by decide +kernel
theorem dX5_isSquareEdge_26 : decode cX5_isSquareEdge 26 = .ok (.iconst 0, 1) := by decide +kernel
theorem dX5_isSquareEdge_27 : decode cX5_isSquareEdge 27 = .ok (.ireturn, 1) := by decide +kernel
theorem dX5_sizeAt_0 : decode cX5_sizeAt 0 = .ok (.bipush 16, 2) := by decide +kernel
theorem dX5_sizeAt_2 : decode cX5_sizeAt 2 = .ok (.iload_n 0, 1) := by decide +kernel
theorem dX5_sizeAt_3 : decode cX5_sizeAt 3 = .ok (.ishr, 1) := by decide +kernel
theorem dX5_sizeAt_4 : decode cX5_sizeAt 4 = .ok (.ireturn, 1) := by decide +kernel
theorem dX5_firstOf_0 : decode cX5_firstOf 0 = .ok (.iload_n 1, 1) := by decide +kernel
theorem dX5_firstOf_1 : decode cX5_firstOf 1 = .ok (.iload_n 0, 1) := by decide +kernel
theorem dX5_firstOf_2 : decode cX5_firstOf 2 = .ok (.invokestatic 115, 3) := by decide +kernel
theorem dX5_firstOf_5 : decode cX5_firstOf 5 = .ok (.ineg, 1) := by decide +kernel
theorem dX5_firstOf_6 : decode cX5_firstOf 6 = .ok (.iand, 1) := by decide +kernel
theorem dX5_firstOf_7 : decode cX5_firstOf 7 = .ok (.ireturn, 1) := by decide +kernel
theorem dX5_roomOfUncut_0 : decode cX5_roomOfUncut 0 = .ok (.iload_n 0, 1) := by decide +kernel
theorem dX5_roomOfUncut_1 : decode cX5_roomOfUncut 1 = .ok (.iconst 1, 1) := by decide +kernel
theorem dX5_roomOfUncut_2 : decode cX5_roomOfUncut 2 = .ok (.if_icmp .ne 7, 3) := by decide +kernel
theorem dX5_roomOfUncut_5 : decode cX5_roomOfUncut 5 = .ok (.iload_n 1, 1) := by decide +kernel
theorem dX5_roomOfUncut_6 : decode cX5_roomOfUncut 6 = .ok (.iload_n 1, 1) := by decide +kernel
theorem dX5_roomOfUncut_7 : decode cX5_roomOfUncut 7 = .ok (.imul, 1) := by decide +kernel
theorem dX5_roomOfUncut_8 : decode cX5_roomOfUncut 8 = .ok (.ireturn, 1) := by decide +kernel
theorem dX5_roomOfUncut_9 : decode cX5_roomOfUncut 9 = .ok (.iload_n 0, 1) := by decide +kernel
theorem dX5_roomOfUncut_10 : decode cX5_roomOfUncut 10 = .ok (.iconst 2, 1) := by decide +kernel
theorem dX5_roomOfUncut_11 : decode cX5_roomOfUncut 11 = .ok (.if_icmp .ne 9, 3) := by decide +kernel
theorem dX5_roomOfUncut_14 : decode cX5_roomOfUncut 14 = .ok (.iconst 2, 1) := by decide +kernel
theorem dX5_roomOfUncut_15 : decode cX5_roomOfUncut 15 = .ok (.iload_n 1, 1) := by decide +kernel
theorem dX5_roomOfUncut_16 : decode cX5_roomOfUncut 16 = .ok (.imul, 1) := by decide +kernel
theorem dX5_roomOfUncut_17 : decode cX5_roomOfUncut 17 = .ok (.goto 4, 3) := by decide +kernel
theorem dX5_roomOfUncut_20 : decode cX5_roomOfUncut 20 = .ok (.iconst 0, 1) := by decide +kernel
theorem dX5_roomOfUncut_21 : decode cX5_roomOfUncut 21 = .ok (.ireturn, 1) := by decide +kernel
theorem dX5_bitsOfPart_0 : decode cX5_bitsOfPart 0 = .ok (.iload_n 0, 1) := by decide +kernel
theorem dX5_bitsOfPart_1 : decode cX5_bitsOfPart 1 = .ok (.ifCond .ne 5, 3) := by decide +kernel
theorem dX5_bitsOfPart_4 : decode cX5_bitsOfPart 4 = .ok (.lconst 0, 1) := by decide +kernel
theorem dX5_bitsOfPart_5 : decode cX5_bitsOfPart 5 = .ok (.lreturn, 1) := by decide +kernel
theorem dX5_bitsOfPart_6 : decode cX5_bitsOfPart 6 = .ok (.iload_n 0, 1) := by decide +kernel
theorem dX5_bitsOfPart_7 : decode cX5_bitsOfPart 7 = .ok (.i2l, 1) := by decide +kernel
theorem dX5_bitsOfPart_8 : decode cX5_bitsOfPart 8 = .ok (.invokestatic 210, 3) := by decide +kernel
theorem dX5_bitsOfPart_11 : decode cX5_bitsOfPart 11 = .ok (.lstore_n 3, 1) := by decide +kernel
theorem dX5_bitsOfPart_12 : decode cX5_bitsOfPart 12 = .ok (.lload_n 3, 1) := by decide +kernel
theorem dX5_bitsOfPart_13 : decode cX5_bitsOfPart 13 = .ok (.invokestatic 216, 3) := by decide +kernel
theorem dX5_bitsOfPart_16 : decode cX5_bitsOfPart 16 = .ok (.istore 5, 2) := by decide +kernel
theorem dX5_bitsOfPart_18 : decode cX5_bitsOfPart 18 = .ok (.iload 5, 2) := by decide +kernel
theorem dX5_bitsOfPart_20 : decode cX5_bitsOfPart 20 = .ok (.bipush 8, 2) := by decide +kernel
theorem dX5_bitsOfPart_22 : decode cX5_bitsOfPart 22 = .ok (.isub, 1) := by decide +kernel
theorem dX5_bitsOfPart_23 : decode cX5_bitsOfPart 23 = .ok (.iload_n 2, 1) := by decide +kernel
theorem dX5_bitsOfPart_24 : decode cX5_bitsOfPart 24 = .ok (.iadd, 1) := by decide +kernel
theorem dX5_bitsOfPart_25 : decode cX5_bitsOfPart 25 = .ok (.i2l, 1) := by decide +kernel
theorem dX5_bitsOfPart_26 : decode cX5_bitsOfPart 26 = .ok (.lstore 6, 2) := by decide +kernel
theorem dX5_bitsOfPart_28 : decode cX5_bitsOfPart 28 = .ok (.lload_n 3, 1) := by decide +kernel
theorem dX5_bitsOfPart_29 : decode cX5_bitsOfPart 29 = .ok (.iload_n 1, 1) := by decide +kernel
theorem dX5_bitsOfPart_30 : decode cX5_bitsOfPart 30 = .ok (.iload 5, 2) := by decide +kernel
theorem dX5_bitsOfPart_32 : decode cX5_bitsOfPart 32 = .ok (.isub, 1) := by decide +kernel
theorem dX5_bitsOfPart_33 : decode cX5_bitsOfPart 33 = .ok (.lshl, 1) := by decide +kernel
theorem dX5_bitsOfPart_34 : decode cX5_bitsOfPart 34 = .ok (.lconst 1, 1) := by decide +kernel
theorem dX5_bitsOfPart_35 : decode cX5_bitsOfPart 35 = .ok (.iload_n 1, 1) := by decide +kernel
theorem dX5_bitsOfPart_36 : decode cX5_bitsOfPart 36 = .ok (.lshl, 1) := by decide +kernel
theorem dX5_bitsOfPart_37 : decode cX5_bitsOfPart 37 = .ok (.lsub, 1) := by decide +kernel
theorem dX5_bitsOfPart_38 : decode cX5_bitsOfPart 38 = .ok (.lstore 8, 2) := by decide +kernel
theorem dX5_bitsOfPart_40 : decode cX5_bitsOfPart 40 = .ok (.lload 6, 2) := by decide +kernel
theorem dX5_bitsOfPart_42 : decode cX5_bitsOfPart 42 = .ok (.iload_n 1, 1) := by decide +kernel
theorem dX5_bitsOfPart_43 : decode cX5_bitsOfPart 43 = .ok (.lshl, 1) := by decide +kernel
theorem dX5_bitsOfPart_44 : decode cX5_bitsOfPart 44 = .ok (.lload 8, 2) := by decide +kernel
theorem dX5_bitsOfPart_46 : decode cX5_bitsOfPart 46 = .ok (.ladd, 1) := by decide +kernel
theorem dX5_bitsOfPart_47 : decode cX5_bitsOfPart 47 = .ok (.lstore 10, 2) := by decide +kernel
theorem dX5_bitsOfPart_49 : decode cX5_bitsOfPart 49 = .ok (.iload_n 0, 1) := by decide +kernel
theorem dX5_bitsOfPart_50 : decode cX5_bitsOfPart 50 = .ok (.ifCond .ge 12, 3) := by decide +kernel
theorem dX5_bitsOfPart_53 : decode cX5_bitsOfPart 53 = .ok (.lload 10, 2) := by decide +kernel
theorem dX5_bitsOfPart_55 : decode cX5_bitsOfPart 55 = .ok (.ldc2_w 221, 3) := by decide +kernel
theorem dX5_bitsOfPart_58 : decode cX5_bitsOfPart 58 = .ok (.lor, 1) := by decide +kernel
theorem dX5_bitsOfPart_59 : decode cX5_bitsOfPart 59 = .ok (.goto 5, 3) := by decide +kernel
theorem dX5_bitsOfPart_62 : decode cX5_bitsOfPart 62 = .ok (.lload 10, 2) := by decide +kernel
theorem dX5_bitsOfPart_64 : decode cX5_bitsOfPart 64 = .ok (.lreturn, 1) := by decide +kernel
theorem dX5_highestBit_0 : decode cX5_highestBit 0 = .ok (.iconst 0, 1) := by decide +kernel
theorem dX5_highestBit_1 : decode cX5_highestBit 1 = .ok (.istore_n 2, 1) := by decide +kernel
theorem dX5_highestBit_2 : decode cX5_highestBit 2 = .ok (.iload_n 2, 1) := by decide +kernel
theorem dX5_highestBit_3 : decode cX5_highestBit 3 = .ok (.bipush 62, 2) := by decide +kernel
theorem dX5_highestBit_5 : decode cX5_highestBit 5 = .ok (.if_icmp .ge 19, 3) := by decide +kernel
theorem dX5_highestBit_8 : decode cX5_highestBit 8 = .ok (.lload_n 0, 1) := by decide +kernel
theorem dX5_highestBit_9 : decode cX5_highestBit 9 = .ok (.iload_n 2, 1) := by decide +kernel
theorem dX5_highestBit_10 : decode cX5_highestBit 10 = .ok (.iconst 1, 1) := by decide +kernel
theorem dX5_highestBit_11 : decode cX5_highestBit 11 = .ok (.iadd, 1) := by decide +kernel
theorem dX5_highestBit_12 : decode cX5_highestBit 12 = .ok (.lshr, 1) := by decide +kernel
theorem dX5_highestBit_13 : decode cX5_highestBit 13 = .ok (.lconst 0, 1) := by decide +kernel
theorem dX5_highestBit_14 : decode cX5_highestBit 14 = .ok (.lcmp, 1) := by decide +kernel
theorem dX5_highestBit_15 : decode cX5_highestBit 15 = .ok (.ifCond .le 9, 3) := by decide +kernel
theorem dX5_highestBit_18 : decode cX5_highestBit 18 = .ok (.iinc 2 1, 3) := by decide +kernel
theorem dX5_highestBit_21 : decode cX5_highestBit 21 = .ok (.goto (-19), 3) := by decide +kernel
theorem dX5_highestBit_24 : decode cX5_highestBit 24 = .ok (.iload_n 2, 1) := by decide +kernel
theorem dX5_highestBit_25 : decode cX5_highestBit 25 = .ok (.ireturn, 1) := by decide +kernel
theorem dX5_signsIn_0 : decode cX5_signsIn 0 = .ok (.lload_n 0, 1) := by decide +kernel
theorem dX5_signsIn_1 : decode cX5_signsIn 1 = .ok (.lstore_n 2, 1) := by decide +kernel
theorem dX5_signsIn_2 : decode cX5_signsIn 2 = .ok (.iconst 0, 1) := by decide +kernel
theorem dX5_signsIn_3 : decode cX5_signsIn 3 = .ok (.istore 4, 2) := by decide +kernel
theorem dX5_signsIn_5 : decode cX5_signsIn 5 = .ok (.lload_n 2, 1) := by decide +kernel
theorem dX5_signsIn_6 : decode cX5_signsIn 6 = .ok (.lconst 0, 1) := by decide +kernel
theorem dX5_signsIn_7 : decode cX5_signsIn 7 = .ok (.lcmp, 1) := by decide +kernel
theorem dX5_signsIn_8 : decode cX5_signsIn 8 = .ok (.ifCond .eq 48, 3) := by decide +kernel
theorem dX5_signsIn_11 : decode cX5_signsIn 11 = .ok (.iload 4, 2) := by decide +kernel
theorem dX5_signsIn_13 : decode cX5_signsIn 13 = .ok (.bipush 8, 2) := by decide +kernel
theorem dX5_signsIn_15 : decode cX5_signsIn 15 = .ok (.if_icmp .ge 41, 3) := by decide +kernel
theorem dX5_signsIn_18 : decode cX5_signsIn 18 = .ok (.lload_n 2, 1) := by decide +kernel
theorem dX5_signsIn_19 : decode cX5_signsIn 19 = .ok (.ldc2_w 182, 3) := by decide +kernel
theorem dX5_signsIn_22 : decode cX5_signsIn 22 = .ok (.land, 1) := by decide +kernel
theorem dX5_signsIn_23 : decode cX5_signsIn 23 = .ok (.lstore 5, 2) := by decide +kernel
theorem dX5_signsIn_25 : decode cX5_signsIn 25 = .ok (.lload 5, 2) := by decide +kernel
theorem dX5_signsIn_27 : decode cX5_signsIn 27 = .ok (.ldc2_w 223, 3) := by decide +kernel
theorem dX5_signsIn_30 : decode cX5_signsIn 30 = .ok (.lcmp, 1) := by decide +kernel
theorem dX5_signsIn_31 : decode cX5_signsIn 31 = .ok (.ifCond .lt 12, 3) := by decide +kernel
theorem dX5_signsIn_34 : decode cX5_signsIn 34 = .ok (.lload 5, 2) := by decide +kernel
theorem dX5_signsIn_36 : decode cX5_signsIn 36 = .ok (.ldc2_w 225, 3) := by decide +kernel
theorem dX5_signsIn_39 : decode cX5_signsIn 39 = .ok (.lcmp, 1) := by decide +kernel
theorem dX5_signsIn_40 : decode cX5_signsIn 40 = .ok (.ifCond .le 5, 3) := by decide +kernel
theorem dX5_signsIn_43 : decode cX5_signsIn 43 = .ok (.iconst 0, 1) := by decide +kernel
theorem dX5_signsIn_44 : decode cX5_signsIn 44 = .ok (.ireturn, 1) := by decide +kernel
theorem dX5_signsIn_45 : decode cX5_signsIn 45 = .ok (.lload_n 2, 1) := by decide +kernel
theorem dX5_signsIn_46 : decode cX5_signsIn 46 = .ok (.bipush 8, 2) := by decide +kernel
theorem dX5_signsIn_48 : decode cX5_signsIn 48 = .ok (.lushr, 1) := by decide +kernel
theorem dX5_signsIn_49 : decode cX5_signsIn 49 = .ok (.lstore_n 2, 1) := by decide +kernel
theorem dX5_signsIn_50 : decode cX5_signsIn 50 = .ok (.iinc 4 1, 3) := by decide +kernel
theorem dX5_signsIn_53 : decode cX5_signsIn 53 = .ok (.goto (-48), 3) := by decide +kernel
theorem dX5_signsIn_56 : decode cX5_signsIn 56 = .ok (.iload 4, 2) := by decide +kernel
theorem dX5_signsIn_58 : decode cX5_signsIn 58 = .ok (.ireturn, 1) := by decide +kernel
theorem dX5_countZeros_0 : decode cX5_countZeros 0 = .ok (.iconst 0, 1) := by decide +kernel
theorem dX5_countZeros_1 : decode cX5_countZeros 1 = .ok (.istore_n 3, 1) := by decide +kernel
theorem dX5_countZeros_2 : decode cX5_countZeros 2 = .ok (.iconst 0, 1) := by decide +kernel
theorem dX5_countZeros_3 : decode cX5_countZeros 3 = .ok (.istore 4, 2) := by decide +kernel
theorem dX5_countZeros_5 : decode cX5_countZeros 5 = .ok (.iload 4, 2) := by decide +kernel
theorem dX5_countZeros_7 : decode cX5_countZeros 7 = .ok (.aload_n 0, 1) := by decide +kernel
theorem dX5_countZeros_8 : decode cX5_countZeros 8 = .ok (.getfield 43, 3) := by decide +kernel
theorem dX5_countZeros_11 : decode cX5_countZeros 11 = .ok (.arraylength, 1) := by decide +kernel
theorem dX5_countZeros_12 : decode cX5_countZeros 12 = .ok (.if_icmp .ge 17, 3) := by decide +kernel
theorem dX5_countZeros_15 : decode cX5_countZeros 15 = .ok (.aload_n 0, 1) := by decide +kernel
theorem dX5_countZeros_16 : decode cX5_countZeros 16 = .ok (.getfield 43, 3) := by decide +kernel
theorem dX5_countZeros_19 : decode cX5_countZeros 19 = .ok (.iload 4, 2) := by decide +kernel
theorem dX5_countZeros_21 : decode cX5_countZeros 21 = .ok (.iconst 0, 1) := by decide +kernel
theorem dX5_countZeros_22 : decode cX5_countZeros 22 = .ok (.iastore, 1) := by decide +kernel
theorem dX5_countZeros_23 : decode cX5_countZeros 23 = .ok (.iinc 4 1, 3) := by decide +kernel
theorem dX5_countZeros_26 : decode cX5_countZeros 26 = .ok (.goto (-21), 3) := by decide +kernel
theorem dX5_countZeros_29 : decode cX5_countZeros 29 = .ok (.iconst 0, 1) := by decide +kernel
theorem dX5_countZeros_30 : decode cX5_countZeros 30 = .ok (.istore 4, 2) := by decide +kernel
theorem dX5_countZeros_32 : decode cX5_countZeros 32 = .ok (.iload 4, 2) := by decide +kernel
theorem dX5_countZeros_34 : decode cX5_countZeros 34 = .ok (.sipush 256, 3) := by decide +kernel
theorem dX5_countZeros_37 : decode cX5_countZeros 37 = .ok (.if_icmp .ge 86, 3) := by decide +kernel
theorem dX5_countZeros_40 : decode cX5_countZeros 40 = .ok (.aload_n 1, 1) := by decide +kernel
theorem dX5_countZeros_41 : decode cX5_countZeros 41 = .ok (.getfield 227, 3) := by decide +kernel
theorem dX5_countZeros_44 : decode cX5_countZeros 44 = .ok (.iload 4, 2) := by decide +kernel
theorem dX5_countZeros_46 : decode cX5_countZeros 46 = .ok (.iaload, 1) := by decide +kernel
theorem dX5_countZeros_47 : decode cX5_countZeros 47 = .ok (.istore 5, 2) := by decide +kernel
theorem dX5_countZeros_49 : decode cX5_countZeros 49 = .ok (.aload_n 2, 1) := by decide +kernel
theorem dX5_countZeros_50 : decode cX5_countZeros 50 = .ok (.getfield 227, 3) := by decide +kernel
theorem dX5_countZeros_53 : decode cX5_countZeros 53 = .ok (.iload 4, 2) := by decide +kernel
theorem dX5_countZeros_55 : decode cX5_countZeros 55 = .ok (.iaload, 1) := by decide +kernel
theorem dX5_countZeros_56 : decode cX5_countZeros 56 = .ok (.istore 6, 2) := by decide +kernel
theorem dX5_countZeros_58 : decode cX5_countZeros 58 = .ok (.iload 6, 2) := by decide +kernel
theorem dX5_countZeros_60 : decode cX5_countZeros 60 = .ok (.ifCond .ne 19, 3) := by decide +kernel
theorem dX5_countZeros_63 : decode cX5_countZeros 63 = .ok (.iload_n 3, 1) := by decide +kernel
theorem dX5_countZeros_64 : decode cX5_countZeros 64 = .ok (.iload 5, 2) := by decide +kernel
theorem dX5_countZeros_66 : decode cX5_countZeros 66 = .ok (.ifCond .ne 7, 3) := by decide +kernel
theorem dX5_countZeros_69 : decode cX5_countZeros 69 = .ok (.iconst 1, 1) := by decide +kernel
theorem dX5_countZeros_70 : decode cX5_countZeros 70 = .ok (.goto 4, 3) := by decide +kernel
theorem dX5_countZeros_73 : decode cX5_countZeros 73 = .ok (.iconst 0, 1) := by decide +kernel
theorem dX5_countZeros_74 : decode cX5_countZeros 74 = .ok (.iadd, 1) := by decide +kernel
theorem dX5_countZeros_75 : decode cX5_countZeros 75 = .ok (.istore_n 3, 1) := by decide +kernel
theorem dX5_countZeros_76 : decode cX5_countZeros 76 = .ok (.goto 41, 3) := by decide +kernel
theorem dX5_countZeros_79 : decode cX5_countZeros 79 = .ok (.iload 5, 2) := by decide +kernel
theorem dX5_countZeros_81 : decode cX5_countZeros 81 = .ok (.iload 6, 2) := by decide +kernel
theorem dX5_countZeros_83 : decode cX5_countZeros 83 = .ok (.irem, 1) := by decide +kernel
theorem dX5_countZeros_84 : decode cX5_countZeros 84 = .ok (.ifCond .ne 33, 3) := by decide +kernel
theorem dX5_countZeros_87 : decode cX5_countZeros 87 = .ok (.iload 5, 2) := by decide +kernel
theorem dX5_countZeros_89 : decode cX5_countZeros 89 = .ok (.iload 6, 2) := by decide +kernel
theorem dX5_countZeros_91 : decode cX5_countZeros 91 = .ok (.idiv, 1) := by decide +kernel
theorem dX5_countZeros_92 : decode cX5_countZeros 92 = .ok (.bipush 99, 2) := by decide +kernel
theorem dX5_countZeros_94 : decode cX5_countZeros 94 = .ok (.invokestatic 83, 3) := by decide +kernel
theorem dX5_countZeros_97 : decode cX5_countZeros 97 = .ok (.ifCond .eq 20, 3) := by decide +kernel
theorem dX5_countZeros_100 : decode cX5_countZeros 100 = .ok (.aload_n 0, 1) := by decide +kernel
theorem dX5_countZeros_101 : decode cX5_countZeros 101 = .ok (.getfield 43, 3) := by decide +kernel
theorem dX5_countZeros_104 : decode cX5_countZeros 104 = .ok (.bipush 99, 2) := by decide +kernel
theorem dX5_countZeros_106 : decode cX5_countZeros 106 = .ok (.iload 5, 2) := by decide +kernel
theorem dX5_countZeros_108 : decode cX5_countZeros 108 = .ok (.iload 6, 2) := by decide +kernel
theorem dX5_countZeros_110 : decode cX5_countZeros 110 = .ok (.idiv, 1) := by decide +kernel
theorem dX5_countZeros_111 : decode cX5_countZeros 111 = .ok (.isub, 1) := by decide +kernel
theorem dX5_countZeros_112 : decode cX5_countZeros 112 = .ok (.dup2, 1) := by decide +kernel
theorem dX5_countZeros_113 : decode cX5_countZeros 113 = .ok (.iaload, 1) := by decide +kernel
theorem dX5_countZeros_114 : decode cX5_countZeros 114 = .ok (.iconst 1, 1) := by decide +kernel
theorem dX5_countZeros_115 : decode cX5_countZeros 115 = .ok (.iadd, 1) := by decide +kernel
theorem dX5_countZeros_116 : decode cX5_countZeros 116 = .ok (.iastore, 1) := by decide +kernel
theorem dX5_countZeros_117 : decode cX5_countZeros 117 = .ok (.iinc 4 1, 3) := by decide +kernel
theorem dX5_countZeros_120 : decode cX5_countZeros 120 = .ok (.goto (-88), 3) := by decide +kernel
theorem dX5_countZeros_123 : decode cX5_countZeros 123 = .ok (.iconst 0, 1) := by decide +kernel
theorem dX5_countZeros_124 : decode cX5_countZeros 124 = .ok (.istore 4, 2) := by decide +kernel
theorem dX5_countZeros_126 : decode cX5_countZeros 126 = .ok (.iload 4, 2) := by decide +kernel
theorem dX5_countZeros_128 : decode cX5_countZeros 128 = .ok (.aload_n 0, 1) := by decide +kernel
theorem dX5_countZeros_129 : decode cX5_countZeros 129 = .ok (.getfield 43, 3) := by decide +kernel
theorem dX5_countZeros_132 : decode cX5_countZeros 132 = .ok (.arraylength, 1) := by decide +kernel
theorem dX5_countZeros_133 : decode cX5_countZeros 133 = .ok (.if_icmp .ge 20, 3) := by decide +kernel
theorem dX5_countZeros_136 : decode cX5_countZeros 136 = .ok (.aload_n 0, 1) := by decide +kernel
theorem dX5_countZeros_137 : decode cX5_countZeros 137 = .ok (.getfield 43, 3) := by decide +kernel
theorem dX5_countZeros_140 : decode cX5_countZeros 140 = .ok (.iload 4, 2) := by decide +kernel
theorem dX5_countZeros_142 : decode cX5_countZeros 142 = .ok (.dup2, 1) := by decide +kernel
theorem dX5_countZeros_143 : decode cX5_countZeros 143 = .ok (.iaload, 1) := by decide +kernel
theorem dX5_countZeros_144 : decode cX5_countZeros 144 = .ok (.iload_n 3, 1) := by decide +kernel
theorem dX5_countZeros_145 : decode cX5_countZeros 145 = .ok (.iadd, 1) := by decide +kernel
theorem dX5_countZeros_146 : decode cX5_countZeros 146 = .ok (.iastore, 1) := by decide +kernel
theorem dX5_countZeros_147 : decode cX5_countZeros 147 = .ok (.iinc 4 1, 3) := by decide +kernel
theorem dX5_countZeros_150 : decode cX5_countZeros 150 = .ok (.goto (-24), 3) := by decide +kernel
theorem dX5_countZeros_153 : decode cX5_countZeros 153 = .ok (.return_, 1) := by decide +kernel
end
section
theorem dX6_init_0 : decode cX6_init 0 = .ok (.aload_n 0, 1) := by decide +kernel
theorem dX6_init_1 : decode cX6_init 1 = .ok (.invokespecial 1, 3) := by decide +kernel
theorem dX6_init_4 : decode cX6_init 4 = .ok (.aload_n 0, 1) := by decide +kernel
theorem dX6_init_5 : decode cX6_init 5 = .ok (.sipush 1365, 3) := by decide +kernel
theorem dX6_init_8 : decode cX6_init 8 = .ok (.newarray .int, 2) := by decide +kernel
theorem dX6_init_10 : decode cX6_init 10 = .ok (.putfield 7, 3) := by decide +kernel
theorem dX6_init_13 : decode cX6_init 13 = .ok (.aload_n 0, 1) := by decide +kernel
theorem dX6_init_14 : decode cX6_init 14 = .ok (.sipush 1365, 3) := by decide +kernel
theorem dX6_init_17 : decode cX6_init 17 = .ok (.newarray .int, 2) := by decide +kernel
theorem dX6_init_19 : decode cX6_init 19 = .ok (.putfield 13, 3) := by decide +kernel
theorem dX6_init_22 : decode cX6_init 22 = .ok (.aload_n 0, 1) := by decide +kernel
theorem dX6_init_23 : decode cX6_init 23 = .ok (.sipush 8190, 3) := by decide +kernel
theorem dX6_init_26 : decode cX6_init 26 = .ok (.newarray .int, 2) := by decide +kernel
theorem dX6_init_28 : decode cX6_init 28 = .ok (.putfield 16, 3) := by decide +kernel
theorem dX6_init_31 : decode cX6_init 31 = .ok (.aload_n 0, 1) := by decide +kernel
theorem dX6_init_32 : decode cX6_init 32 = .ok (.sipush 2730, 3) := by decide +kernel
theorem dX6_init_35 : decode cX6_init 35 = .ok (.newarray .int, 2) := by decide +kernel
theorem dX6_init_37 : decode cX6_init 37 = .ok (.putfield 19, 3) := by decide +kernel
theorem dX6_init_40 : decode cX6_init 40 = .ok (.aload_n 0, 1) := by decide +kernel
theorem dX6_init_41 : decode cX6_init 41 = .ok (.iconst 2, 1) := by decide +kernel
theorem dX6_init_42 : decode cX6_init 42 = .ok (.newarray .boolean, 2) := by decide +kernel
theorem dX6_init_44 : decode cX6_init 44 = .ok (.putfield 22, 3) := by decide +kernel
theorem dX6_init_47 : decode cX6_init 47 = .ok (.aload_n 0, 1) := by decide +kernel
theorem dX6_init_48 : decode cX6_init 48 = .ok (.bipush 80, 2) := by decide +kernel
theorem dX6_init_50 : decode cX6_init 50 = .ok (.newarray .int, 2) := by decide +kernel
theorem dX6_init_52 : decode cX6_init 52 = .ok (.putfield 26, 3) := by decide +kernel
theorem dX6_init_55 : decode cX6_init 55 = .ok (.aload_n 0, 1) := by decide +kernel
theorem dX6_init_56 : decode cX6_init 56 = .ok (.sipush 341, 3) := by decide +kernel
theorem dX6_init_59 : decode cX6_init 59 = .ok (.newarray .int, 2) := by decide +kernel
theorem dX6_init_61 : decode cX6_init 61 = .ok (.putfield 29, 3) := by decide +kernel
theorem dX6_init_64 : decode cX6_init 64 = .ok (.aload_n 0, 1) := by decide +kernel
theorem dX6_init_65 : decode cX6_init 65 = .ok (.sipush 256, 3) := by decide +kernel
theorem dX6_init_68 : decode cX6_init 68 = .ok (.newarray .int, 2) := by decide +kernel
theorem dX6_init_70 : decode cX6_init 70 = .ok (.putfield 32, 3) := by decide +kernel
theorem dX6_init_73 : decode cX6_init 73 = .ok (.aload_n 0, 1) := by decide +kernel
theorem dX6_init_74 : decode cX6_init 74 = .ok (.bipush 16, 2) := by decide +kernel
theorem dX6_init_76 : decode cX6_init 76 = .ok (.newarray .int, 2) := by decide +kernel
theorem dX6_init_78 : decode cX6_init 78 = .ok (.putfield 35, 3) := by decide +kernel
theorem dX6_init_81 : decode cX6_init 81 = .ok (.aload_n 0, 1) := by decide +kernel
theorem dX6_init_82 : decode cX6_init 82 = .ok (.bipush 85, 2) := by decide +kernel
theorem dX6_init_84 : decode cX6_init 84 = .ok (.newarray .boolean, 2) := by decide +kernel
theorem dX6_init_86 : decode cX6_init 86 = .ok (.putfield 38, 3) := by decide +kernel
theorem dX6_init_89 : decode cX6_init 89 = .ok (.aload_n 0, 1) := by decide +kernel
theorem dX6_init_90 : decode cX6_init 90 = .ok (.iconst 0, 1) := by decide +kernel
theorem dX6_init_91 : decode cX6_init 91 = .ok (.putfield 41, 3) := by decide +kernel
theorem dX6_init_94 : decode cX6_init 94 = .ok (.return_, 1) := by decide +kernel
theorem dX6_in_0 : decode cX6_in 0 = .ok (.iload_n 0, 1) := by decide +kernel
theorem dX6_in_1 : decode cX6_in 1 = .ok (.iload_n 1, 1) := by decide +kernel
theorem dX6_in_2 : decode cX6_in 2 = .ok (.if_icmp .lt 12, 3) := by decide +kernel
theorem dX6_in_5 : decode cX6_in 5 = .ok (.iload_n 0, 1) := by decide +kernel
theorem dX6_in_6 : decode cX6_in 6 = .ok (.iload_n 2, 1) := by decide +kernel
theorem dX6_in_7 : decode cX6_in 7 = .ok (.if_icmp .gt 7, 3) := by decide +kernel
theorem dX6_in_10 : decode cX6_in 10 = .ok (.iconst 1, 1) := by decide +kernel
theorem dX6_in_11 : decode cX6_in 11 = .ok (.goto 4, 3) := by decide +kernel
theorem dX6_in_14 : decode cX6_in 14 = .ok (.iconst 0, 1) := by decide +kernel
theorem dX6_in_15 : decode cX6_in 15 = .ok (.ireturn, 1) := by decide +kernel
theorem dX6_isMatrix_0 : decode cX6_isMatrix 0 = .ok (.iload_n 0, 1) := by decide +kernel
theorem dX6_isMatrix_1 : decode cX6_isMatrix 1 = .ok (.iconst 0, 1) := by decide +kernel
theorem dX6_isMatrix_2 : decode cX6_isMatrix 2 = .ok (.iconst 3, 1) := by decide +kernel
theorem dX6_isMatrix_3 : decode cX6_isMatrix 3 = .ok (.invokestatic 45, 3) := by decide +kernel
theorem dX6_isMatrix_6 : decode cX6_isMatrix 6 = .ok (.ireturn, 1) := by decide +kernel
theorem dX6_isPlace_0 : decode cX6_isPlace 0 = .ok (.iload_n 0, 1) := by decide +kernel
theorem dX6_isPlace_1 : decode cX6_isPlace 1 = .ok (.iconst 0, 1) := by decide +kernel
theorem dX6_isPlace_2 : decode cX6_isPlace 2 = .ok (.bipush 15, 2) := by decide +kernel
theorem dX6_isPlace_4 : decode cX6_isPlace 4 = .ok (.invokestatic 45, 3) := by decide +kernel
theorem dX6_isPlace_7 : decode cX6_isPlace 7 = .ok (.ifCond .eq 17, 3) := by decide +kernel
theorem dX6_isPlace_10 : decode cX6_isPlace 10 = .ok (.iload_n 1, 1) := by decide +kernel
theorem dX6_isPlace_11 : decode cX6_isPlace 11 = .ok (.iconst 0, 1) := by decide +kernel
theorem dX6_isPlace_12 : decode cX6_isPlace 12 = .ok (.bipush 15, 2) := by decide +kernel
theorem dX6_isPlace_14 : decode cX6_isPlace 14 = .ok (.invokestatic 45, 3) := by decide +kernel
theorem dX6_isPlace_17 : decode cX6_isPlace 17 = .ok (.ifCond .eq 7, 3) := by decide +kernel
theorem dX6_isPlace_20 : decode cX6_isPlace 20 = .ok (.iconst 1, 1) := by decide +kernel
theorem dX6_isPlace_21 : decode cX6_isPlace 21 = .ok (.goto 4, 3) := by decide +kernel
theorem dX6_isPlace_24 : decode cX6_isPlace 24 = .ok (.iconst 0, 1) := by decide +kernel
theorem dX6_isPlace_25 : decode cX6_isPlace 25 = .ok (.ireturn, 1) := by decide +kernel
theorem dX6_sizeAt_0 : decode cX6_sizeAt 0 = .ok (.bipush 16, 2) := by decide +kernel
theorem dX6_sizeAt_2 : decode cX6_sizeAt 2 = .ok (.iload_n 0, 1) := by decide +kernel
theorem dX6_sizeAt_3 : decode cX6_sizeAt 3 = .ok (.ishr, 1) := by decide +kernel
theorem dX6_sizeAt_4 : decode cX6_sizeAt 4 = .ok (.ireturn, 1) := by decide +kernel
theorem dX6_node_0 : decode cX6_node 0 = .ok (.iload_n 0, 1) := by decide +kernel
theorem dX6_node_1 : decode cX6_node 1 = .ok (.ifCond .ne 7, 3) := by decide +kernel
theorem dX6_node_4 : decode cX6_node 4 = .ok (.iconst 0, 1) := by decide +kernel
theorem dX6_node_5 : decode cX6_node 5 = .ok (.goto 23, 3) := by decide +kernel
theorem dX6_node_8 : decode cX6_node 8 = .ok (.iload_n 0, 1) := by decide +kernel
theorem dX6_node_9 : decode cX6_node 9 = .ok (.iconst 1, 1) := by decide +kernel
theorem dX6_node_10 : decode cX6_node 10 = .ok (.if_icmp .ne 7, 3) := by decide +kernel
theorem dX6_node_13 : decode cX6_node 13 = .ok (.iconst 1, 1) := by decide +kernel
theorem dX6_node_14 : decode cX6_node 14 = .ok (.goto 14, 3) := by decide +kernel
theorem dX6_node_17 : decode cX6_node 17 = .ok (.iload_n 0, 1) := by decide +kernel
theorem dX6_node_18 : decode cX6_node 18 = .ok (.iconst 2, 1) := by decide +kernel
theorem dX6_node_19 : decode cX6_node 19 = .ok (.if_icmp .ne 7, 3) := by decide +kernel
theorem dX6_node_22 : decode cX6_node 22 = .ok (.iconst 5, 1) := by decide +kernel
theorem dX6_node_23 : decode cX6_node 23 = .ok (.goto 5, 3) := by decide +kernel
theorem dX6_node_26 : decode cX6_node 26 = .ok (.bipush 21, 2) := by decide +kernel
theorem dX6_node_28 : decode cX6_node 28 = .ok (.istore_n 3, 1) := by decide +kernel
theorem dX6_node_29 : decode cX6_node 29 = .ok (.iload_n 3, 1) := by decide +kernel
theorem dX6_node_30 : decode cX6_node 30 = .ok (.iload_n 1, 1) := by decide +kernel
theorem dX6_node_31 : decode cX6_node 31 = .ok (.iload_n 0, 1) := by decide +kernel
theorem dX6_node_32 : decode cX6_node 32 = .ok (.ishl, 1) := by decide +kernel
theorem dX6_node_33 : decode cX6_node 33 = .ok (.iadd, 1) := by decide +kernel
theorem dX6_node_34 : decode cX6_node 34 = .ok (.iload_n 2, 1) := by decide +kernel
theorem dX6_node_35 : decode cX6_node 35 = .ok (.iadd, 1) := by decide +kernel
theorem dX6_node_36 : decode cX6_node 36 = .ok (.ireturn, 1) := by decide +kernel
theorem dX6_sort_0 : decode cX6_sort 0 = .ok (.aload_n 0, 1) := by decide +kernel
theorem dX6_sort_1 : decode cX6_sort 1 = .ok (.getfield 7, 3) := by decide +kernel
theorem dX6_sort_4 : decode cX6_sort 4 = .ok (.sipush 341, 3) := by decide +kernel
theorem dX6_sort_7 : decode cX6_sort 7 = .ok (.iload_n 1, 1) := by decide +kernel
theorem dX6_sort_8 : decode cX6_sort 8 = .ok (.imul, 1) := by decide +kernel
theorem dX6_sort_9 : decode cX6_sort 9 = .ok (.iload_n 2, 1) := by decide +kernel
theorem dX6_sort_10 : decode cX6_sort 10 = .ok (.iload_n 3, 1) := by decide +kernel
theorem dX6_sort_11 : decode cX6_sort 11 = .ok (.iload 4, 2) := by decide +kernel
theorem dX6_sort_13 : decode cX6_sort 13 = .ok (.invokestatic 49, 3) := by decide +kernel
theorem dX6_sort_16 : decode cX6_sort 16 = .ok (.iadd, 1) := by decide +kernel
theorem dX6_sort_17 : decode cX6_sort 17 = .ok (.iaload, 1) := by decide +kernel
theorem dX6_sort_18 : decode cX6_sort 18 = .ok (.ireturn, 1) := by decide +kernel
theorem dX6_sorts_0 : decode cX6_sorts 0 = .ok (.aload_n 0, 1) := by decide +kernel
theorem dX6_sorts_1 : decode cX6_sorts 1 = .ok (.getfield 7, 3) := by decide +kernel
theorem dX6_sorts_4 : decode cX6_sorts 4 = .ok (.sipush 341, 3) := by decide +kernel
theorem dX6_sorts_7 : decode cX6_sorts 7 = .ok (.iload_n 1, 1) := by decide +kernel
theorem dX6_sorts_8 : decode cX6_sorts 8 = .ok (.imul, 1) := by decide +kernel
theorem dX6_sorts_9 : decode cX6_sorts 9 = .ok (.iload_n 2, 1) := by decide +kernel
theorem dX6_sorts_10 : decode cX6_sorts 10 = .ok (.iload_n 3, 1) := by decide +kernel
theorem dX6_sorts_11 : decode cX6_sorts 11 = .ok (.iload 4, 2) := by decide +kernel
theorem dX6_sorts_13 : decode cX6_sorts 13 = .ok (.invokestatic 49, 3) := by decide +kernel
theorem dX6_sorts_16 : decode cX6_sorts 16 = .ok (.iadd, 1) := by decide +kernel
theorem dX6_sorts_17 : decode cX6_sorts 17 = .ok (.iload 5, 2) := by decide +kernel
theorem dX6_sorts_19 : decode cX6_sorts 19 = .ok (.iastore, 1) := by decide +kernel
theorem dX6_sorts_20 : decode cX6_sorts 20 = .ok (.return_, 1) := by decide +kernel
theorem dX6_get_0 : decode cX6_get 0 = .ok (.aload_n 0, 1) := by decide +kernel
theorem dX6_get_1 : decode cX6_get 1 = .ok (.getfield 7, 3) := by decide +kernel
theorem dX6_get_4 : decode cX6_get 4 = .ok (.sipush 341, 3) := by decide +kernel
theorem dX6_get_7 : decode cX6_get 7 = .ok (.iload_n 1, 1) := by decide +kernel
theorem dX6_get_8 : decode cX6_get 8 = .ok (.imul, 1) := by decide +kernel
theorem dX6_get_9 : decode cX6_get 9 = .ok (.bipush 85, 2) := by decide +kernel
theorem dX6_get_11 : decode cX6_get 11 = .ok (.iadd, 1) := by decide +kernel
theorem dX6_get_12 : decode cX6_get 12 = .ok (.bipush 16, 2) := by decide +kernel
theorem dX6_get_14 : decode cX6_get 14 = .ok (.iload_n 2, 1) := by decide +kernel
theorem dX6_get_15 : decode cX6_get 15 = .ok (.imul, 1) := by decide +kernel
theorem dX6_get_16 : decode cX6_get 16 = .ok (.iadd, 1) := by decide +kernel
theorem dX6_get_17 : decode cX6_get 17 = .ok (.iload_n 3, 1) := by decide +kernel
theorem dX6_get_18 : decode cX6_get 18 = .ok (.iadd, 1) := by decide +kernel
theorem dX6_get_19 : decode cX6_get 19 = .ok (.iaload, 1) := by decide +kernel
theorem dX6_get_20 : decode cX6_get 20 = .ok (.ireturn, 1) := by decide +kernel
theorem dX6_lay_0 : decode cX6_lay 0 = .ok (.aload_n 0, 1) := by decide +kernel
theorem dX6_lay_1 : decode cX6_lay 1 = .ok (.getfield 7, 3) := by decide +kernel
theorem dX6_lay_4 : decode cX6_lay 4 = .ok (.sipush 341, 3) := by decide +kernel
theorem dX6_lay_7 : decode cX6_lay 7 = .ok (.iload_n 1, 1) := by decide +kernel
theorem dX6_lay_8 : decode cX6_lay 8 = .ok (.imul, 1) := by decide +kernel
theorem dX6_lay_9 : decode cX6_lay 9 = .ok (.bipush 85, 2) := by decide +kernel
theorem dX6_lay_11 : decode cX6_lay 11 = .ok (.iadd, 1) := by decide +kernel
theorem dX6_lay_12 : decode cX6_lay 12 = .ok (.bipush 16, 2) := by decide +kernel
theorem dX6_lay_14 : decode cX6_lay 14 = .ok (.iload_n 2, 1) := by decide +kernel
theorem dX6_lay_15 : decode cX6_lay 15 = .ok (.imul, 1) := by decide +kernel
theorem dX6_lay_16 : decode cX6_lay 16 = .ok (.iadd, 1) := by decide +kernel
theorem dX6_lay_17 : decode cX6_lay 17 = .ok (.iload_n 3, 1) := by decide +kernel
theorem dX6_lay_18 : decode cX6_lay 18 = .ok (.iadd, 1) := by decide +kernel
theorem dX6_lay_19 : decode cX6_lay 19 = .ok (.iload 4, 2) := by decide +kernel
theorem dX6_lay_21 : decode cX6_lay 21 = .ok (.iastore, 1) := by decide +kernel
theorem dX6_lay_22 : decode cX6_lay 22 = .ok (.return_, 1) := by decide +kernel
theorem dX6_records_0 : decode cX6_records 0 = .ok (.aload_n 0, 1) := by decide +kernel
theorem dX6_records_1 : decode cX6_records 1 = .ok (.getfield 53, 3) := by decide +kernel
theorem dX6_records_4 : decode cX6_records 4 = .ok (.bipush 6, 2) := by decide +kernel
theorem dX6_records_6 : decode cX6_records 6 = .ok (.if_icmp .ne 44, 3) := by decide +kernel
theorem dX6_records_9 : decode cX6_records 9 = .ok (.iconst 0, 1) := by decide +kernel
theorem dX6_records_10 : decode cX6_records 10 = .ok (.istore_n 1, 1) := by decide +kernel
theorem dX6_records_11 : decode cX6_records 11 = .ok (.iload_n 1, 1) := by decide +kernel
theorem dX6_records_12 : decode cX6_records 12 = .ok (.sipush 6825, 3) := by decide +kernel
theorem dX6_records_15 : decode cX6_records 15 = .ok (.if_icmp .ge 25, 3) := by decide +kernel
theorem dX6_records_18 : decode cX6_records 18 = .ok (.aload_n 0, 1) := by decide +kernel
theorem dX6_records_19 : decode cX6_records 19 = .ok (.getfield 16, 3) := by decide +kernel
theorem dX6_records_22 : decode cX6_records 22 = .ok (.iload_n 1, 1) := by decide +kernel
theorem dX6_records_23 : decode cX6_records 23 = .ok (.aload_n 0, 1) := by decide +kernel
theorem dX6_records_24 : decode cX6_records 24 = .ok (.getfield 16, 3) := by decide +kernel
theorem dX6_records_27 : decode cX6_records 27 = .ok (.iload_n 1, 1) := by decide +kernel
theorem dX6_records_28 : decode cX6_records 28 = .ok (.sipush 1365, 3) := by decide +kernel
theorem dX6_records_31 : decode cX6_records 31 = .ok (.iadd, 1) := by decide +kernel
theorem dX6_records_32 : decode cX6_records 32 = .ok (.iaload, 1) := by decide +kernel
theorem dX6_records_33 : decode cX6_records 33 = .ok (.iastore, 1) := by decide +kernel
theorem dX6_records_34 : decode cX6_records 34 = .ok (.iinc 1 1, 3) := by decide +kernel
theorem dX6_records_37 : decode cX6_records 37 = .ok (.goto (-26), 3) := by decide +kernel
theorem dX6_records_40 : decode cX6_records 40 = .ok (.aload_n 0, 1) := by decide +kernel
theorem dX6_records_41 : decode cX6_records 41 = .ok (.dup, 1) := by decide +kernel
theorem dX6_records_42 : decode cX6_records 42 = .ok (.getfield 53, 3) := by decide +kernel
theorem dX6_records_45 : decode cX6_records 45 = .ok (.iconst 1, 1) := by decide +kernel
theorem dX6_records_46 : decode cX6_records 46 = .ok (.isub, 1) := by decide +kernel
theorem dX6_records_47 : decode cX6_records 47 = .ok (.putfield 53, 3) := by decide +kernel
theorem dX6_records_50 : decode cX6_records 50 = .ok (.iconst 0, 1) := by decide +kernel
theorem dX6_records_51 : decode cX6_records 51 = .ok (.istore_n 1, 1) := by decide +kernel
theorem dX6_records_52 : decode cX6_records 52 = .ok (.iload_n 1, 1) := by decide +kernel
theorem dX6_records_53 : decode cX6_records 53 = .ok (.sipush 1365, 3) := by decide +kernel
theorem dX6_records_56 : decode cX6_records 56 = .ok (.if_icmp .ge 30, 3) := by decide +kernel
theorem dX6_records_59 : decode cX6_records 59 = .ok (.aload_n 0, 1) := by decide +kernel
theorem dX6_records_60 : decode cX6_records 60 = .ok (.getfield 16, 3) := by decide +kernel
theorem dX6_records_63 : decode cX6_records 63 = .ok (.sipush 1365, 3) := by decide +kernel
theorem dX6_records_66 : decode cX6_records 66 = .ok (.aload_n 0, 1) := by decide +kernel
theorem dX6_records_67 : decode cX6_records 67 = .ok (.getfield 53, 3) := by decide +kernel
theorem dX6_records_70 : decode cX6_records 70 = .ok (.imul, 1) := by decide +kernel
theorem dX6_records_71 : decode cX6_records 71 = .ok (.iload_n 1, 1) := by decide +kernel
theorem dX6_records_72 : decode cX6_records 72 = .ok (.iadd, 1) := by decide +kernel
theorem dX6_records_73 : decode cX6_records 73 = .ok (.aload_n 0, 1) := by decide +kernel
theorem dX6_records_74 : decode cX6_records 74 = .ok (.getfield 7, 3) := by decide +kernel
theorem dX6_records_77 : decode cX6_records 77 = .ok (.iload_n 1, 1) := by decide +kernel
theorem dX6_records_78 : decode cX6_records 78 = .ok (.iaload, 1) := by decide +kernel
theorem dX6_records_79 : decode cX6_records 79 = .ok (.iastore, 1) := by decide +kernel
theorem dX6_records_80 : decode cX6_records 80 = .ok (.iinc 1 1, 3) := by decide +kernel
theorem dX6_records_83 : decode cX6_records 83 = .ok (.goto (-31), 3) := by decide +kernel
theorem dX6_records_86 : decode cX6_records 86 = .ok (.aload_n 0, 1) := by decide +kernel
theorem dX6_records_87 : decode cX6_records 87 = .ok (.dup, 1) := by decide +kernel
theorem dX6_records_88 : decode cX6_records 88 = .ok (.getfield 53, 3) := by decide +kernel
theorem dX6_records_91 : decode cX6_records 91 = .ok (.iconst 1, 1) := by decide +kernel
theorem dX6_records_92 : decode cX6_records 92 = .ok (.iadd, 1) := by decide +kernel
theorem dX6_records_93 : decode cX6_records 93 = .ok (.putfield 53, 3) := by decide +kernel
theorem dX6_records_96 : decode cX6_records 96 = .ok (.return_, 1) := by decide +kernel
theorem dX6_counts_0 : decode cX6_counts 0 = .ok (.aload_n 0, 1) := by decide +kernel
theorem dX6_counts_1 : decode cX6_counts 1 = .ok (.invokevirtual 56, 3) := by decide +kernel
theorem dX6_counts_4 : decode cX6_counts 4 = .ok (.aload_n 0, 1) := by decide +kernel
theorem dX6_counts_5 : decode cX6_counts 5 = .ok (.getfield 7, 3) := by decide +kernel
theorem dX6_counts_8 : decode cX6_counts 8 = .ok (.sipush 1364, 3) := by decide +kernel
theorem dX6_counts_11 : decode cX6_counts 11 = .ok (.dup2, 1) := by decide +kernel
theorem dX6_counts_12 : decode cX6_counts 12 = .ok (.iaload, 1) := by decide +kernel
theorem dX6_counts_13 : decode cX6_counts 13 = .ok (.iconst 1, 1) := by decide +kernel
theorem dX6_counts_14 : decode cX6_counts 14 = .ok (.iadd, 1) := by decide +kernel
theorem dX6_counts_15 : decode cX6_counts 15 = .ok (.iastore, 1) := by decide +kernel
theorem dX6_counts_16 : decode cX6_counts 16 = .ok (.return_, 1) := by decide +kernel
theorem dX6_putAside_0 : decode cX6_putAside 0 = .ok (.iconst 0, 1) := by decide +kernel
theorem dX6_putAside_1 : decode cX6_putAside 1 = .ok (.istore_n 1, 1) := by decide +kernel
theorem dX6_putAside_2 : decode cX6_putAside 2 = .ok (.iload_n 1, 1) := by decide +kernel
theorem dX6_putAside_3 : decode cX6_putAside 3 = .ok (.sipush 1365, 3) := by decide +kernel
theorem dX6_putAside_6 : decode cX6_putAside 6 = .ok (.if_icmp .ge 21, 3) := by decide +kernel
theorem dX6_putAside_9 : decode cX6_putAside 9 = .ok (.aload_n 0, 1) := by decide +kernel
theorem dX6_putAside_10 : decode cX6_putAside 10 = .ok (.getfield 13, 3) := by decide +kernel
theorem dX6_putAside_13 : decode cX6_putAside 13 = .ok (.iload_n 1, 1) := by decide +kernel
theorem dX6_putAside_14 : decode cX6_putAside 14 = .ok (.aload_n 0, 1) := by decide +kernel
theorem dX6_putAside_15 : decode cX6_putAside 15 = .ok (.getfield 7, 3) := by decide +kernel
theorem dX6_putAside_18 : decode cX6_putAside 18 = .ok (.iload_n 1, 1) := by decide +kernel
theorem dX6_putAside_19 : decode cX6_putAside 19 = .ok (.iaload, 1) := by decide +kernel
theorem dX6_putAside_20 : decode cX6_putAside 20 = .ok (.iastore, 1) := by decide +kernel
theorem dX6_putAside_21 : decode cX6_putAside 21 = .ok (.iinc 1 1, 3) := by decide +kernel
theorem dX6_putAside_24 : decode cX6_putAside 24 = .ok (.goto (-22), 3) := by decide +kernel
theorem dX6_putAside_27 : decode cX6_putAside 27 = .ok (.return_, 1) := by decide +kernel
theorem dX6_takeBack_0 : decode cX6_takeBack 0 = .ok (.iconst 0, 1) := by decide +kernel
theorem dX6_takeBack_1 : decode cX6_takeBack 1 = .ok (.istore_n 1, 1) := by decide +kernel
theorem dX6_takeBack_2 : decode cX6_takeBack 2 = .ok (.iload_n 1, 1) := by decide +kernel
theorem dX6_takeBack_3 : decode cX6_takeBack 3 = .ok (.sipush 1365, 3) := by decide +kernel
theorem dX6_takeBack_6 : decode cX6_takeBack 6 = .ok (.if_icmp .ge 21, 3) := by decide +kernel
theorem dX6_takeBack_9 : decode cX6_takeBack 9 = .ok (.aload_n 0, 1) := by decide +kernel
theorem dX6_takeBack_10 : decode cX6_takeBack 10 = .ok (.getfield 7, 3) := by decide +kernel
theorem dX6_takeBack_13 : decode cX6_takeBack 13 = .ok (.iload_n 1, 1) := by decide +kernel
theorem dX6_takeBack_14 : decode cX6_takeBack 14 = .ok (.aload_n 0, 1) := by decide +kernel
theorem dX6_takeBack_15 : decode cX6_takeBack 15 = .ok (.getfield 13, 3) := by decide +kernel
theorem dX6_takeBack_18 : decode cX6_takeBack 18 = .ok (.iload_n 1, 1) := by decide +kernel
theorem dX6_takeBack_19 : decode cX6_takeBack 19 = .ok (.iaload, 1) := by decide +kernel
theorem dX6_takeBack_20 : decode cX6_takeBack 20 = .ok (.iastore, 1) := by decide +kernel
theorem dX6_takeBack_21 : decode cX6_takeBack 21 = .ok (.iinc 1 1, 3) := by decide +kernel
theorem dX6_takeBack_24 : decode cX6_takeBack 24 = .ok (.goto (-22), 3) := by decide +kernel
theorem dX6_takeBack_27 : decode cX6_takeBack 27 = .ok (.return_, 1) := by decide +kernel
theorem dX6_isThere_0 : decode cX6_isThere 0 = .ok (.iconst 1, 1) := by decide +kernel
theorem dX6_isThere_1 : decode cX6_isThere 1 = .ok (.istore 5, 2) := by decide +kernel
theorem dX6_isThere_3 : decode cX6_isThere 3 = .ok (.iconst 0, 1) := by decide +kernel
theorem dX6_isThere_4 : decode cX6_isThere 4 = .ok (.istore 6, 2) := by decide +kernel
theorem dX6_isThere_6 : decode cX6_isThere 6 = .ok (.iload 6, 2) := by decide +kernel
theorem dX6_isThere_8 : decode cX6_isThere 8 = .ok (.iload_n 2, 1) := by decide +kernel
theorem dX6_isThere_9 : decode cX6_isThere 9 = .ok (.if_icmp .ge 45, 3) := by decide +kernel
theorem dX6_isThere_12 : decode cX6_isThere 12 = .ok (.iload 5, 2) := by decide +kernel
theorem dX6_isThere_14 : decode cX6_isThere 14 = .ok (.ifCond .eq 31, 3) := by decide +kernel
theorem dX6_isThere_17 : decode cX6_isThere 17 = .ok (.aload_n 0, 1) := by decide +kernel
theorem dX6_isThere_18 : decode cX6_isThere 18 = .ok (.iload_n 1, 1) := by decide +kernel
theorem dX6_isThere_19 : decode cX6_isThere 19 = .ok (.iload 6, 2) := by decide +kernel
theorem dX6_isThere_21 : decode cX6_isThere 21 = .ok (.iload_n 3, 1) := by decide +kernel
theorem dX6_isThere_22 : decode cX6_isThere 22 = .ok (.iload_n 2, 1) := by decide +kernel
theorem dX6_isThere_23 : decode cX6_isThere 23 = .ok (.iload 6, 2) := by decide +kernel
theorem dX6_isThere_25 : decode cX6_isThere 25 = .ok (.isub, 1) := by decide +kernel
theorem dX6_isThere_26 : decode cX6_isThere 26 = .ok (.ishr, 1) := by decide +kernel
theorem dX6_isThere_27 : decode cX6_isThere 27 = .ok (.iload 4, 2) := by decide +kernel
theorem dX6_isThere_29 : decode cX6_isThere 29 = .ok (.iload_n 2, 1) := by decide +kernel
theorem dX6_isThere_30 : decode cX6_isThere 30 = .ok (.iload 6, 2) := by decide +kernel
theorem dX6_isThere_32 : decode cX6_isThere 32 = .ok (.isub, 1) := by decide +kernel
theorem dX6_isThere_33 : decode cX6_isThere 33 = .ok (.ishr, 1) := by decide +kernel
theorem dX6_isThere_34 : decode cX6_isThere 34 = .ok (.invokevirtual 59, 3) := by decide +kernel
theorem dX6_isThere_37 : decode cX6_isThere 37 = .ok (.iconst 3, 1) := by decide +kernel
theorem dX6_isThere_38 : decode cX6_isThere 38 = .ok (.if_icmp .ne 7, 3) := by decide +kernel
theorem dX6_isThere_41 : decode cX6_isThere 41 = .ok (.iconst 1, 1) := by decide +kernel
theorem dX6_isThere_42 : decode cX6_isThere 42 = .ok (.goto 4, 3) := by decide +kernel
theorem dX6_isThere_45 : decode cX6_isThere 45 = .ok (.iconst 0, 1) := by decide +kernel
theorem dX6_isThere_46 : decode cX6_isThere 46 = .ok (.istore 5, 2) := by decide +kernel
theorem dX6_isThere_48 : decode cX6_isThere 48 = .ok (.iinc 6 1, 3) := by decide +kernel
theorem dX6_isThere_51 : decode cX6_isThere 51 = .ok (.goto (-45), 3) := by decide +kernel
theorem dX6_isThere_54 : decode cX6_isThere 54 = .ok (.iload 5, 2) := by decide +kernel
theorem dX6_isThere_56 : decode cX6_isThere 56 = .ok (.ireturn, 1) := by decide +kernel
theorem dX6_roomOf_0 : decode cX6_roomOf 0 = .ok (.iload_n 0, 1) := by decide +kernel
theorem dX6_roomOf_1 : decode cX6_roomOf 1 = .ok (.iconst 1, 1) := by decide +kernel
theorem dX6_roomOf_2 : decode cX6_roomOf 2 = .ok (.if_icmp .ne 9, 3) := by decide +kernel
theorem dX6_roomOf_5 : decode cX6_roomOf 5 = .ok (.iload_n 1, 1) := by decide +kernel
theorem dX6_roomOf_6 : decode cX6_roomOf 6 = .ok (.iload_n 1, 1) := by decide +kernel
theorem dX6_roomOf_7 : decode cX6_roomOf 7 = .ok (.imul, 1) := by decide +kernel
theorem dX6_roomOf_8 : decode cX6_roomOf 8 = .ok (.goto 24, 3) := by decide +kernel
theorem dX6_roomOf_11 : decode cX6_roomOf 11 = .ok (.iload_n 0, 1) := by decide +kernel
theorem dX6_roomOf_12 : decode cX6_roomOf 12 = .ok (.iconst 2, 1) := by decide +kernel
theorem dX6_roomOf_13 : decode cX6_roomOf 13 = .ok (.if_icmp .ne 9, 3) := by decide +kernel
theorem dX6_roomOf_16 : decode cX6_roomOf 16 = .ok (.iconst 2, 1) := by decide +kernel
theorem dX6_roomOf_17 : decode cX6_roomOf 17 = .ok (.iload_n 1, 1) := by decide +kernel
theorem dX6_roomOf_18 : decode cX6_roomOf 18 = .ok (.imul, 1) := by decide +kernel
theorem dX6_roomOf_19 : decode cX6_roomOf 19 = .ok (.goto 13, 3) := by decide +kernel
theorem dX6_roomOf_22 : decode cX6_roomOf 22 = .ok (.iload_n 0, 1) := by decide +kernel
theorem dX6_roomOf_23 : decode cX6_roomOf 23 = .ok (.iconst 3, 1) := by decide +kernel
theorem dX6_roomOf_24 : decode cX6_roomOf 24 = .ok (.if_icmp .ne 7, 3) := by decide +kernel
theorem dX6_roomOf_27 : decode cX6_roomOf 27 = .ok (.iconst 1, 1) := by decide +kernel
theorem dX6_roomOf_28 : decode cX6_roomOf 28 = .ok (.goto 4, 3) := by decide +kernel
theorem dX6_roomOf_31 : decode cX6_roomOf 31 = .ok (.iconst 0, 1) := by decide +kernel
theorem dX6_roomOf_32 : decode cX6_roomOf 32 = .ok (.ireturn, 1) := by decide +kernel
theorem dX6_roomFrom_0 : decode cX6_roomFrom 0 = .ok (.iconst 0, 1) := by decide +kernel
theorem dX6_roomFrom_1 : decode cX6_roomFrom 1 = .ok (.istore 5, 2) := by decide +kernel
theorem dX6_roomFrom_3 : decode cX6_roomFrom 3 = .ok (.iload_n 2, 1) := by decide +kernel
theorem dX6_roomFrom_4 : decode cX6_roomFrom 4 = .ok (.istore 6, 2) := by decide +kernel
theorem dX6_roomFrom_6 : decode cX6_roomFrom 6 = .ok (.iload 6, 2) := by decide +kernel
theorem dX6_roomFrom_8 : decode cX6_roomFrom 8 = .ok (.iconst 4, 1) := by decide +kernel
theorem dX6_roomFrom_9 : decode cX6_roomFrom 9 = .ok (.if_icmp .ge 103, 3) := by decide +kernel
theorem dX6_roomFrom_12 : decode cX6_roomFrom 12 = .ok (.iconst 1, 1) := by decide +kernel
theorem dX6_roomFrom_13 : decode cX6_roomFrom 13 = .ok (.iload 6, 2) := by decide +kernel
theorem dX6_roomFrom_15 : decode cX6_roomFrom 15 = .ok (.iload_n 2, 1) := by decide +kernel
theorem dX6_roomFrom_16 : decode cX6_roomFrom 16 = .ok (.isub, 1) := by decide +kernel
theorem dX6_roomFrom_17 : decode cX6_roomFrom 17 = .ok (.ishl, 1) := by decide +kernel
theorem dX6_roomFrom_18 : decode cX6_roomFrom 18 = .ok (.istore 7, 2) := by decide +kernel
theorem dX6_roomFrom_20 : decode cX6_roomFrom 20 = .ok (.iconst 0, 1) := by decide +kernel
theorem dX6_roomFrom_21 : decode cX6_roomFrom 21 = .ok (.istore 8, 2) := by decide +kernel
theorem dX6_roomFrom_23 : decode cX6_roomFrom 23 = .ok (.iload 8, 2) := by decide +kernel
theorem dX6_roomFrom_25 : decode cX6_roomFrom 25 = .ok (.iload 7, 2) := by decide +kernel
theorem dX6_roomFrom_27 : decode cX6_roomFrom 27 = .ok (.iload 7, 2) := by decide +kernel
theorem dX6_roomFrom_29 : decode cX6_roomFrom 29 = .ok (.imul, 1) := by decide +kernel
theorem dX6_roomFrom_30 : decode cX6_roomFrom 30 = .ok (.if_icmp .ge 76, 3) := by decide +kernel
theorem dX6_roomFrom_33 : decode cX6_roomFrom 33 = .ok (.iload_n 3, 1) := by decide +kernel
theorem dX6_roomFrom_34 : decode cX6_roomFrom 34 = .ok (.iload 7, 2) := by decide +kernel
theorem dX6_roomFrom_36 : decode cX6_roomFrom 36 = .ok (.imul, 1) := by decide +kernel
theorem dX6_roomFrom_37 : decode cX6_roomFrom 37 = .ok (.iload 8, 2) := by decide +kernel
theorem dX6_roomFrom_39 : decode cX6_roomFrom 39 = .ok (.iload 7, 2) := by decide +kernel
theorem dX6_roomFrom_41 : decode cX6_roomFrom 41 = .ok (.idiv, 1) := by decide +kernel
theorem dX6_roomFrom_42 : decode cX6_roomFrom 42 = .ok (.iadd, 1) := by decide +kernel
theorem dX6_roomFrom_43 : decode cX6_roomFrom 43 = .ok (.istore 9, 2) := by decide +kernel
theorem dX6_roomFrom_45 : decode cX6_roomFrom 45 = .ok (.iload 4, 2) := by decide +kernel
theorem dX6_roomFrom_47 : decode cX6_roomFrom 47 = .ok (.iload 7, 2) := by decide +kernel
theorem dX6_roomFrom_49 : decode cX6_roomFrom 49 = .ok (.imul, 1) := by decide +kernel
theorem dX6_roomFrom_50 : decode cX6_roomFrom 50 = .ok (.iload 8, 2) := by decide +kernel
theorem dX6_roomFrom_52 : decode cX6_roomFrom 52 = .ok (.iload 7, 2) := by decide +kernel
theorem dX6_roomFrom_54 : decode cX6_roomFrom 54 = .ok (.irem, 1) := by decide +kernel
theorem dX6_roomFrom_55 : decode cX6_roomFrom 55 = .ok (.iadd, 1) := by decide +kernel
theorem dX6_roomFrom_56 : decode cX6_roomFrom 56 = .ok (.istore 10, 2) := by decide +kernel
theorem dX6_roomFrom_58 : decode cX6_roomFrom 58 = .ok (.iload 5, 2) := by decide +kernel
theorem dX6_roomFrom_60 : decode cX6_roomFrom 60 = .ok (.aload_n 0, 1) := by decide +kernel
theorem dX6_roomFrom_61 : decode cX6_roomFrom 61 = .ok (.iload_n 1, 1) := by decide +kernel
theorem dX6_roomFrom_62 : decode cX6_roomFrom 62 = .ok (.iload 6, 2) := by decide +kernel
theorem dX6_roomFrom_64 : decode cX6_roomFrom 64 = .ok (.iload 9, 2) := by decide +kernel
theorem dX6_roomFrom_66 : decode cX6_roomFrom 66 = .ok (.iload 10, 2) := by decide +kernel
theorem dX6_roomFrom_68 : decode cX6_roomFrom 68 = .ok (.invokevirtual 63, 3) := by decide +kernel
theorem dX6_roomFrom_71 : decode cX6_roomFrom 71 = .ok (.ifCond .eq 25, 3) := by decide +kernel
theorem dX6_roomFrom_74 : decode cX6_roomFrom 74 = .ok (.aload_n 0, 1) := by decide +kernel
theorem dX6_roomFrom_75 : decode cX6_roomFrom 75 = .ok (.iload_n 1, 1) := by decide +kernel
theorem dX6_roomFrom_76 : decode cX6_roomFrom 76 = .ok (.iload 6, 2) := by decide +kernel
theorem dX6_roomFrom_78 : decode cX6_roomFrom 78 = .ok (.iload 9, 2) := by decide +kernel
theorem dX6_roomFrom_80 : decode cX6_roomFrom 80 = .ok (.iload 10, 2) := by decide +kernel
theorem dX6_roomFrom_82 : decode cX6_roomFrom 82 = .ok (.invokevirtual 59, 3) := by decide +kernel
theorem dX6_roomFrom_85 : decode cX6_roomFrom 85 = .ok (.iload 6, 2) := by decide +kernel
theorem dX6_roomFrom_87 : decode cX6_roomFrom 87 = .ok (.invokestatic 67, 3) := by decide +kernel
theorem dX6_roomFrom_90 : decode cX6_roomFrom 90 = .ok (.invokestatic 71, 3) := by decide +kernel
theorem dX6_roomFrom_93 : decode cX6_roomFrom 93 = .ok (.goto 4, 3) := by decide +kernel
theorem dX6_roomFrom_96 : decode cX6_roomFrom 96 = .ok (.iconst 0, 1) := by decide +kernel
theorem dX6_roomFrom_97 : decode cX6_roomFrom 97 = .ok (.iadd, 1) := by decide +kernel
theorem dX6_roomFrom_98 : decode cX6_roomFrom 98 = .ok (.istore 5, 2) := by decide +kernel
theorem dX6_roomFrom_100 : decode cX6_roomFrom 100 = .ok (.iinc 8 1, 3) := by decide +kernel
theorem dX6_roomFrom_103 : decode cX6_roomFrom 103 = .ok (.goto (-80), 3) := by decide +kernel
theorem dX6_roomFrom_106 : decode cX6_roomFrom 106 = .ok (.iinc 6 1, 3) := by decide +kernel
theorem dX6_roomFrom_109 : decode cX6_roomFrom 109 = .ok (.goto (-103), 3) := by decide +kernel
theorem dX6_roomFrom_112 : decode cX6_roomFrom 112 = .ok (.iload 5, 2) := by decide +kernel
theorem dX6_roomFrom_114 : decode cX6_roomFrom 114 = .ok (.ireturn, 1) := by decide +kernel
theorem dX6_room_0 : decode cX6_room 0 = .ok (.aload_n 0, 1) := by decide +kernel
theorem dX6_room_1 : decode cX6_room 1 = .ok (.iload_n 1, 1) := by decide +kernel
theorem dX6_room_2 : decode cX6_room 2 = .ok (.iconst 0, 1) := by decide +kernel
theorem dX6_room_3 : decode cX6_room 3 = .ok (.iconst 0, 1) := by decide +kernel
theorem dX6_room_4 : decode cX6_room 4 = .ok (.iconst 0, 1) := by decide +kernel
theorem dX6_room_5 : decode cX6_room 5 = .ok (.invokevirtual 75, 3) := by decide +kernel
theorem dX6_room_8 : decode cX6_room 8 = .ok (.ireturn, 1) := by decide +kernel
theorem dX6_depthAt_0 : decode cX6_depthAt 0 = .ok (.iconst 0, 1) := by decide +kernel
theorem dX6_depthAt_1 : decode cX6_depthAt 1 = .ok (.istore 4, 2) := by decide +kernel
theorem dX6_depthAt_3 : decode cX6_depthAt 3 = .ok (.aload_n 0, 1) := by decide +kernel
theorem dX6_depthAt_4 : decode cX6_depthAt 4 = .ok (.iload_n 1, 1) := by decide +kernel
theorem dX6_depthAt_5 : decode cX6_depthAt 5 = .ok (.iload 4, 2) := by decide +kernel
theorem dX6_depthAt_7 : decode cX6_depthAt 7 = .ok (.iload_n 2, 1) := by decide +kernel
theorem dX6_depthAt_8 : decode cX6_depthAt 8 = .ok (.iload 4, 2) := by decide +kernel
theorem dX6_depthAt_10 : decode cX6_depthAt 10 = .ok (.invokestatic 67, 3) := by decide +kernel
theorem dX6_depthAt_13 : decode cX6_depthAt 13 = .ok (.idiv, 1) := by decide +kernel
theorem dX6_depthAt_14 : decode cX6_depthAt 14 = .ok (.iload_n 3, 1) := by decide +kernel
theorem dX6_depthAt_15 : decode cX6_depthAt 15 = .ok (.iload 4, 2) := by decide +kernel
theorem dX6_depthAt_17 : decode cX6_depthAt 17 = .ok (.invokestatic 67, 3) := by decide +kernel
theorem dX6_depthAt_20 : decode cX6_depthAt 20 = .ok (.idiv, 1) := by decide +kernel
theorem dX6_depthAt_21 : decode cX6_depthAt 21 = .ok (.invokevirtual 59, 3) := by decide +kernel
theorem dX6_depthAt_24 : decode cX6_depthAt 24 = .ok (.iconst 3, 1) := by decide +kernel
theorem dX6_depthAt_25 : decode cX6_depthAt 25 = .ok (.if_icmp .ne 9, 3) := by decide +kernel
theorem dX6_depthAt_28 : decode cX6_depthAt 28 = .ok (.iinc 4 1, 3) := by decide +kernel
theorem dX6_depthAt_31 : decode cX6_depthAt 31 = .ok (.goto (-28), 3) := by decide +kernel
theorem dX6_depthAt_34 : decode cX6_depthAt 34 = .ok (.iload 4, 2) := by decide +kernel
theorem dX6_depthAt_36 : decode cX6_depthAt 36 = .ok (.ireturn, 1) := by decide +kernel
theorem dX6_allRoom_0 : decode cX6_allRoom 0 = .ok (.iconst 0, 1) := by decide +kernel
theorem dX6_allRoom_1 : decode cX6_allRoom 1 = .ok (.istore_n 1, 1) := by decide +kernel
theorem dX6_allRoom_2 : decode cX6_allRoom 2 = .ok (.iconst 0, 1) := by decide +kernel
theorem dX6_allRoom_3 : decode cX6_allRoom 3 = .ok (.istore_n 2, 1) := by decide +kernel
theorem dX6_allRoom_4 : decode cX6_allRoom 4 = .ok (.iload_n 2, 1) := by decide +kernel
theorem dX6_allRoom_5 : decode cX6_allRoom 5 = .ok (.iconst 4, 1) := by decide +kernel
theorem dX6_allRoom_6 : decode cX6_allRoom 6 = .ok (.if_icmp .ge 17, 3) := by decide +kernel
theorem dX6_allRoom_9 : decode cX6_allRoom 9 = .ok (.iload_n 1, 1) := by decide +kernel
theorem dX6_allRoom_10 : decode cX6_allRoom 10 = .ok (.aload_n 0, 1) := by decide +kernel
theorem dX6_allRoom_11 : decode cX6_allRoom 11 = .ok (.iload_n 2, 1) := by decide +kernel
theorem dX6_allRoom_12 : decode cX6_allRoom 12 = .ok (.invokevirtual 78, 3) := by decide +kernel
theorem dX6_allRoom_15 : decode cX6_allRoom 15 = .ok (.iadd, 1) := by decide +kernel
theorem dX6_allRoom_16 : decode cX6_allRoom 16 = .ok (.istore_n 1, 1) := by decide +kernel
theorem dX6_allRoom_17 : decode cX6_allRoom 17 = .ok (.iinc 2 1, 3) := by decide +kernel
theorem dX6_allRoom_20 : decode cX6_allRoom 20 = .ok (.goto (-16), 3) := by decide +kernel
theorem dX6_allRoom_23 : decode cX6_allRoom 23 = .ok (.iload_n 1, 1) := by decide +kernel
theorem dX6_allRoom_24 : decode cX6_allRoom 24 = .ok (.ireturn, 1) := by decide +kernel
theorem dX6_trace_0 : decode cX6_trace 0 = .ok (.iconst 0, 1) := by decide +kernel
theorem dX6_trace_1 : decode cX6_trace 1 = .ok (.istore_n 2, 1) := by decide +kernel
theorem dX6_trace_2 : decode cX6_trace 2 = .ok (.iconst 0, 1) := by decide +kernel
theorem dX6_trace_3 : decode cX6_trace 3 = .ok (.istore_n 3, 1) := by decide +kernel
theorem dX6_trace_4 : decode cX6_trace 4 = .ok (.iload_n 3, 1) := by decide +kernel
theorem dX6_trace_5 : decode cX6_trace 5 = .ok (.bipush 16, 2) := by decide +kernel
theorem dX6_trace_7 : decode cX6_trace 7 = .ok (.if_icmp .ge 19, 3) := by decide +kernel
theorem dX6_trace_10 : decode cX6_trace 10 = .ok (.iload_n 2, 1) := by decide +kernel
theorem dX6_trace_11 : decode cX6_trace 11 = .ok (.aload_n 0, 1) := by decide +kernel
theorem dX6_trace_12 : decode cX6_trace 12 = .ok (.iload_n 1, 1) := by decide +kernel
theorem dX6_trace_13 : decode cX6_trace 13 = .ok (.iload_n 3, 1) := by decide +kernel
theorem dX6_trace_14 : decode cX6_trace 14 = .ok (.iload_n 3, 1) := by decide +kernel
theorem dX6_trace_15 : decode cX6_trace 15 = .ok (.invokevirtual 81, 3) := by decide +kernel
theorem dX6_trace_18 : decode cX6_trace 18 = .ok (.iadd, 1) := by decide +kernel
theorem dX6_trace_19 : decode cX6_trace 19 = .ok (.istore_n 2, 1) := by decide +kernel
theorem dX6_trace_20 : decode cX6_trace 20 = .ok (.iinc 3 1, 3) := by decide +kernel
theorem dX6_trace_23 : decode cX6_trace 23 = .ok (.goto (-19), 3) := by decide +kernel
theorem dX6_trace_26 : decode cX6_trace 26 = .ok (.iload_n 2, 1) := by decide +kernel
theorem dX6_trace_27 : decode cX6_trace 27 = .ok (.ireturn, 1) := by decide +kernel
theorem dX6_firstRow_0 : decode cX6_firstRow 0 = .ok (.iconst 0, 1) := by decide +kernel
theorem dX6_firstRow_1 : decode cX6_firstRow 1 = .ok (.istore 5, 2) := by decide +kernel
theorem dX6_firstRow_3 : decode cX6_firstRow 3 = .ok (.iload 5, 2) := by decide +kernel
theorem dX6_firstRow_5 : decode cX6_firstRow 5 = .ok (.iload 4, 2) := by decide +kernel
theorem dX6_firstRow_7 : decode cX6_firstRow 7 = .ok (.iload 4, 2) := by decide +kernel
theorem dX6_firstRow_9 : decode cX6_firstRow 9 = .ok (.imul, 1) := by decide +kernel
theorem dX6_firstRow_10 : decode cX6_firstRow 10 = .ok (.if_icmp .ge 39, 3) := by decide +kernel
theorem dX6_firstRow_13 : decode cX6_firstRow 13 = .ok (.aload_n 0, 1) := by decide +kernel
theorem dX6_firstRow_14 : decode cX6_firstRow 14 = .ok (.iload_n 1, 1) := by decide +kernel
theorem dX6_firstRow_15 : decode cX6_firstRow 15 = .ok (.iload_n 2, 1) := by decide +kernel
theorem dX6_firstRow_16 : decode cX6_firstRow 16 = .ok (.iload 5, 2) := by decide +kernel
theorem dX6_firstRow_18 : decode cX6_firstRow 18 = .ok (.iload 4, 2) := by decide +kernel
theorem dX6_firstRow_20 : decode cX6_firstRow 20 = .ok (.idiv, 1) := by decide +kernel
theorem dX6_firstRow_21 : decode cX6_firstRow 21 = .ok (.iadd, 1) := by decide +kernel
theorem dX6_firstRow_22 : decode cX6_firstRow 22 = .ok (.iload_n 3, 1) := by decide +kernel
theorem dX6_firstRow_23 : decode cX6_firstRow 23 = .ok (.iload 5, 2) := by decide +kernel
theorem dX6_firstRow_25 : decode cX6_firstRow 25 = .ok (.iload 4, 2) := by decide +kernel
theorem dX6_firstRow_27 : decode cX6_firstRow 27 = .ok (.irem, 1) := by decide +kernel
theorem dX6_firstRow_28 : decode cX6_firstRow 28 = .ok (.iadd, 1) := by decide +kernel
theorem dX6_firstRow_29 : decode cX6_firstRow 29 = .ok (.invokevirtual 81, 3) := by decide +kernel
theorem dX6_firstRow_32 : decode cX6_firstRow 32 = .ok (.ifCond .eq 11, 3) := by decide +kernel
theorem dX6_firstRow_35 : decode cX6_firstRow 35 = .ok (.iload_n 2, 1) := by decide +kernel
theorem dX6_firstRow_36 : decode cX6_firstRow 36 = .ok (.iload 5, 2) := by decide +kernel
theorem dX6_firstRow_38 : decode cX6_firstRow 38 = .ok (.iload 4, 2) := by decide +kernel
theorem dX6_firstRow_40 : decode cX6_firstRow 40 = .ok (.idiv, 1) := by decide +kernel
theorem dX6_firstRow_41 : decode cX6_firstRow 41 = .ok (.iadd, 1) := by decide +kernel
theorem dX6_firstRow_42 : decode cX6_firstRow 42 = .ok (.ireturn, 1) := by decide +kernel
theorem dX6_firstRow_43 : decode cX6_firstRow 43 = .ok (.iinc 5 1, 3) := by decide +kernel
theorem dX6_firstRow_46 : decode cX6_firstRow 46 = .ok (.goto (-43), 3) := by decide +kernel
theorem dX6_firstRow_49 : decode cX6_firstRow 49 = .ok (.bipush (-6), 2) := by decide +kernel
theorem dX6_firstRow_51 : decode cX6_firstRow 51 = .ok (.ireturn, 1) := by decide +kernel
theorem dX6_firstColumn_0 : decode cX6_firstColumn 0 = .ok (.iconst 0, 1) := by decide +kernel
theorem dX6_firstColumn_1 : decode cX6_firstColumn 1 = .ok (.istore 5, 2) := by decide +kernel
theorem dX6_firstColumn_3 : decode cX6_firstColumn 3 = .ok (.iload 5, 2) := by decide +kernel
theorem dX6_firstColumn_5 : decode cX6_firstColumn 5 = .ok (.iload 4, 2) := by decide +kernel
theorem dX6_firstColumn_7 : decode cX6_firstColumn 7 = .ok (.iload 4, 2) := by decide +kernel
theorem dX6_firstColumn_9 : decode cX6_firstColumn 9 = .ok (.imul, 1) := by decide +kernel
theorem dX6_firstColumn_10 : decode cX6_firstColumn 10 = .ok (.if_icmp .ge 39, 3) := by decide +kernel
theorem dX6_firstColumn_13 : decode cX6_firstColumn 13 = .ok (.aload_n 0, 1) := by decide +kernel
theorem dX6_firstColumn_14 : decode cX6_firstColumn 14 = .ok (.iload_n 1, 1) := by decide +kernel
theorem dX6_firstColumn_15 : decode cX6_firstColumn 15 = .ok (.iload_n 2, 1) := by decide +kernel
theorem dX6_firstColumn_16 : decode cX6_firstColumn 16 = .ok (.iload 5, 2) := by decide +kernel
theorem dX6_firstColumn_18 : decode cX6_firstColumn 18 = .ok (.iload 4, 2) := by decide +kernel
theorem dX6_firstColumn_20 : decode cX6_firstColumn 20 = .ok (.irem, 1) := by decide +kernel
theorem dX6_firstColumn_21 : decode cX6_firstColumn 21 = .ok (.iadd, 1) := by decide +kernel
theorem dX6_firstColumn_22 : decode cX6_firstColumn 22 = .ok (.iload_n 3, 1) := by decide +kernel
theorem dX6_firstColumn_23 : decode cX6_firstColumn 23 = .ok (.iload 5, 2) := by decide +kernel
theorem dX6_firstColumn_25 : decode cX6_firstColumn 25 = .ok (.iload 4, 2) := by decide +kernel
theorem dX6_firstColumn_27 : decode cX6_firstColumn 27 = .ok (.idiv, 1) := by decide +kernel
theorem dX6_firstColumn_28 : decode cX6_firstColumn 28 = .ok (.iadd, 1) := by decide +kernel
theorem dX6_firstColumn_29 : decode cX6_firstColumn 29 = .ok (.invokevirtual 81, 3) := by decide +kernel
theorem dX6_firstColumn_32 : decode cX6_firstColumn 32 = .ok (.ifCond .eq 11, 3) := by decide +kernel
theorem dX6_firstColumn_35 : decode cX6_firstColumn 35 = .ok (.iload_n 3, 1) := by decide +kernel
theorem dX6_firstColumn_36 : decode cX6_firstColumn 36 = .ok (.iload 5, 2) := by decide +kernel
theorem dX6_firstColumn_38 : decode cX6_firstColumn 38 = .ok (.iload 4, 2) := by decide +kernel
theorem dX6_firstColumn_40 : decode cX6_firstColumn 40 = .ok (.idiv, 1) := by decide +kernel
theorem dX6_firstColumn_41 : decode cX6_firstColumn 41 = .ok (.iadd, 1) := by decide +kernel
theorem dX6_firstColumn_42 : decode cX6_firstColumn 42 = .ok (.ireturn, 1) := by decide +kernel
theorem dX6_firstColumn_43 : decode cX6_firstColumn 43 = .ok (.iinc 5 1, 3) := by decide +kernel
theorem dX6_firstColumn_46 : decode cX6_firstColumn 46 = .ok (.goto (-43), 3) := by decide +kernel
theorem dX6_firstColumn_49 : decode cX6_firstColumn 49 = .ok (.bipush (-6), 2) := by decide +kernel
theorem dX6_firstColumn_51 : decode cX6_firstColumn 51 = .ok (.ireturn, 1) := by decide +kernel
theorem dX6_oneness_0 : decode cX6_oneness 0 = .ok (.aload_n 0, 1) := by decide +kernel
theorem dX6_oneness_1 : decode cX6_oneness 1 = .ok (.iload_n 1, 1) := by decide +kernel
theorem dX6_oneness_2 : decode cX6_oneness 2 = .ok (.iload_n 2, 1) := by decide +kernel
theorem dX6_oneness_3 : decode cX6_oneness 3 = .ok (.iload_n 3, 1) := by decide +kernel
theorem dX6_oneness_4 : decode cX6_oneness 4 = .ok (.iload 4, 2) := by decide +kernel
theorem dX6_oneness_6 : decode cX6_oneness 6 = .ok (.invokevirtual 84, 3) := by decide +kernel
theorem dX6_oneness_9 : decode cX6_oneness 9 = .ok (.istore 5, 2) := by decide +kernel
theorem dX6_oneness_11 : decode cX6_oneness 11 = .ok (.aload_n 0, 1) := by decide +kernel
theorem dX6_oneness_12 : decode cX6_oneness 12 = .ok (.iload_n 1, 1) := by decide +kernel
theorem dX6_oneness_13 : decode cX6_oneness 13 = .ok (.iload_n 2, 1) := by decide +kernel
theorem dX6_oneness_14 : decode cX6_oneness 14 = .ok (.iload_n 3, 1) := by decide +kernel
theorem dX6_oneness_15 : decode cX6_oneness 15 = .ok (.iload 4, 2) := by decide +kernel
theorem dX6_oneness_17 : decode cX6_oneness 17 = .ok (.invokevirtual 87, 3) := by decide +kernel
theorem dX6_oneness_20 : decode cX6_oneness 20 = .ok (.istore 6, 2) := by decide +kernel
theorem dX6_oneness_22 : decode cX6_oneness 22 = .ok (.iload 5, 2) := by decide +kernel
theorem dX6_oneness_24 : decode cX6_oneness 24 = .ok (.bipush (-6), 2) := by decide +kernel
theorem dX6_oneness_26 : decode cX6_oneness 26 = .ok (.if_icmp .ne 5, 3) := by decide +kernel
theorem dX6_oneness_29 : decode cX6_oneness 29 = .ok (.iconst 2, 1) := by decide +kernel
theorem dX6_oneness_30 : decode cX6_oneness 30 = .ok (.ireturn, 1) := by decide +kernel
theorem dX6_oneness_31 : decode cX6_oneness 31 = .ok (.aload_n 0, 1) := by decide +kernel
theorem dX6_oneness_32 : decode cX6_oneness 32 = .ok (.iload_n 1, 1) := by decide +kernel
theorem dX6_oneness_33 : decode cX6_oneness 33 = .ok (.iload 5, 2) := by decide +kernel
theorem dX6_oneness_35 : decode cX6_oneness 35 = .ok (.iload 6, 2) := by decide +kernel
theorem dX6_oneness_37 : decode cX6_oneness 37 = .ok (.invokevirtual 81, 3) := by decide +kernel
theorem dX6_oneness_40 : decode cX6_oneness 40 = .ok (.i2l, 1) := by decide +kernel
theorem dX6_oneness_41 : decode cX6_oneness 41 = .ok (.lstore 7, 2) := by decide +kernel
theorem dX6_oneness_43 : decode cX6_oneness 43 = .ok (.iconst 0, 1) := by decide +kernel
theorem dX6_oneness_44 : decode cX6_oneness 44 = .ok (.istore 9, 2) := by decide +kernel
theorem dX6_oneness_46 : decode cX6_oneness 46 = .ok (.iload 9, 2) := by decide +kernel
theorem dX6_oneness_48 : decode cX6_oneness 48 = .ok (.iload 4, 2) := by decide +kernel
theorem dX6_oneness_50 : decode cX6_oneness 50 = .ok (.iload 4, 2) := by decide +kernel
theorem dX6_oneness_52 : decode cX6_oneness 52 = .ok (.imul, 1) := by decide +kernel
theorem dX6_oneness_53 : decode cX6_oneness 53 = .ok (.if_icmp .ge 67, 3) := by decide +kernel
theorem dX6_oneness_56 : decode cX6_oneness 56 = .ok (.iload_n 2, 1) := by decide +kernel
theorem dX6_oneness_57 : decode cX6_oneness 57 = .ok (.iload 9, 2) := by decide +kernel
theorem dX6_oneness_59 : decode cX6_oneness 59 = .ok (.iload 4, 2) := by decide +kernel
theorem dX6_oneness_61 : decode cX6_oneness 61 = .ok (.idiv, 1) := by decide +kernel
theorem dX6_oneness_62 : decode cX6_oneness 62 = .ok (.iadd, 1) := by decide +kernel
theorem dX6_oneness_63 : decode cX6_oneness 63 = .ok (.istore 10, 2) := by decide +kernel
theorem dX6_oneness_65 : decode cX6_oneness 65 = .ok (.iload_n 3, 1) := by decide +kernel
theorem dX6_oneness_66 : decode cX6_oneness 66 = .ok (.iload 9, 2) := by decide +kernel
theorem dX6_oneness_68 : decode cX6_oneness 68 = .ok (.iload 4, 2) := by decide +kernel
theorem dX6_oneness_70 : decode cX6_oneness 70 = .ok (.irem, 1) := by decide +kernel
theorem dX6_oneness_71 : decode cX6_oneness 71 = .ok (.iadd, 1) := by decide +kernel
theorem dX6_oneness_72 : decode cX6_oneness 72 = .ok (.istore 11, 2) := by decide +kernel
theorem dX6_oneness_74 : decode cX6_oneness 74 = .ok (.aload_n 0, 1) := by decide +kernel
theorem dX6_oneness_75 : decode cX6_oneness 75 = .ok (.iload_n 1, 1) := by decide +kernel
theorem dX6_oneness_76 : decode cX6_oneness 76 = .ok (.iload 10, 2) := by decide +kernel
theorem dX6_oneness_78 : decode cX6_oneness 78 = .ok (.iload 11, 2) := by decide +kernel
theorem dX6_oneness_80 : decode cX6_oneness 80 = .ok (.invokevirtual 81, 3) := by decide +kernel
theorem dX6_oneness_83 : decode cX6_oneness 83 = .ok (.i2l, 1) := by decide +kernel
theorem dX6_oneness_84 : decode cX6_oneness 84 = .ok (.lload 7, 2) := by decide +kernel
theorem dX6_oneness_86 : decode cX6_oneness 86 = .ok (.lmul, 1) := by decide +kernel
theorem dX6_oneness_87 : decode cX6_oneness 87 = .ok (.aload_n 0, 1) := by decide +kernel
theorem dX6_oneness_88 : decode cX6_oneness 88 = .ok (.iload_n 1, 1) := by decide +kernel
theorem dX6_oneness_89 : decode cX6_oneness 89 = .ok (.iload 10, 2) := by decide +kernel
theorem dX6_oneness_91 : decode cX6_oneness 91 = .ok (.iload 6, 2) := by decide +kernel
theorem dX6_oneness_93 : decode cX6_oneness 93 = .ok (.invokevirtual 81, 3) := by decide +kernel
theorem dX6_oneness_96 : decode cX6_oneness 96 = .ok (.i2l, 1) := by decide +kernel
theorem dX6_oneness_97 : decode cX6_oneness 97 = .ok (.aload_n 0, 1) := by decide +kernel
theorem dX6_oneness_98 : decode cX6_oneness 98 = .ok (.iload_n 1, 1) := by decide +kernel
theorem dX6_oneness_99 : decode cX6_oneness 99 = .ok (.iload 5, 2) := by decide +kernel
theorem dX6_oneness_101 : decode cX6_oneness 101 = .ok (.iload 11, 2) := by decide +kernel
theorem dX6_oneness_103 : decode cX6_oneness 103 = .ok (.invokevirtual 81, 3) := by decide +kernel
theorem dX6_oneness_106 : decode cX6_oneness 106 = .ok (.i2l, 1) := by decide +kernel
theorem dX6_oneness_107 : decode cX6_oneness 107 = .ok (.lmul, 1) := by decide +kernel
theorem dX6_oneness_108 : decode cX6_oneness 108 = .ok (.lcmp, 1) := by decide +kernel
theorem dX6_oneness_109 : decode cX6_oneness 109 = .ok (.ifCond .eq 5, 3) := by decide +kernel
theorem dX6_oneness_112 : decode cX6_oneness 112 = .ok (.iconst 0, 1) := by decide +kernel
theorem dX6_oneness_113 : decode cX6_oneness 113 = .ok (.ireturn, 1) := by decide +kernel
theorem dX6_oneness_114 : decode cX6_oneness 114 = .ok (.iinc 9 1, 3) := by decide +kernel
theorem dX6_oneness_117 : decode cX6_oneness 117 = .ok (.goto (-71), 3) := by decide +kernel
theorem dX6_oneness_120 : decode cX6_oneness 120 = .ok (.iconst 1, 1) := by decide +kernel
theorem dX6_oneness_121 : decode cX6_oneness 121 = .ok (.ireturn, 1) := by decide +kernel
theorem dX6_areEmpty_0 : decode cX6_areEmpty 0 = .ok (.iconst 1, 1) := by decide +kernel
theorem dX6_areEmpty_1 : decode cX6_areEmpty 1 = .ok (.istore 5, 2) := by decide +kernel
theorem dX6_areEmpty_3 : decode cX6_areEmpty 3 = .ok (.iconst 0, 1) := by decide +kernel
theorem dX6_areEmpty_4 : decode cX6_areEmpty 4 = .ok (.istore 6, 2) := by decide +kernel
theorem dX6_areEmpty_6 : decode cX6_areEmpty 6 = .ok (.iload 6, 2) := by decide +kernel
theorem dX6_areEmpty_8 : decode cX6_areEmpty 8 = .ok (.iconst 4, 1) := by decide +kernel
theorem dX6_areEmpty_9 : decode cX6_areEmpty 9 = .ok (.if_icmp .ge 49, 3) := by decide +kernel
theorem dX6_areEmpty_12 : decode cX6_areEmpty 12 = .ok (.iload 5, 2) := by decide +kernel
theorem dX6_areEmpty_14 : decode cX6_areEmpty 14 = .ok (.ifCond .eq 35, 3) := by decide +kernel
theorem dX6_areEmpty_17 : decode cX6_areEmpty 17 = .ok (.aload_n 0, 1) := by decide +kernel
theorem dX6_areEmpty_18 : decode cX6_areEmpty 18 = .ok (.iload_n 1, 1) := by decide +kernel
theorem dX6_areEmpty_19 : decode cX6_areEmpty 19 = .ok (.iload_n 2, 1) := by decide +kernel
theorem dX6_areEmpty_20 : decode cX6_areEmpty 20 = .ok (.iconst 1, 1) := by decide +kernel
theorem dX6_areEmpty_21 : decode cX6_areEmpty 21 = .ok (.iadd, 1) := by decide +kernel
theorem dX6_areEmpty_22 : decode cX6_areEmpty 22 = .ok (.iconst 2, 1) := by decide +kernel
theorem dX6_areEmpty_23 : decode cX6_areEmpty 23 = .ok (.iload_n 3, 1) := by decide +kernel
theorem dX6_areEmpty_24 : decode cX6_areEmpty 24 = .ok (.imul, 1) := by decide +kernel
theorem dX6_areEmpty_25 : decode cX6_areEmpty 25 = .ok (.iload 6, 2) := by decide +kernel
theorem dX6_areEmpty_27 : decode cX6_areEmpty 27 = .ok (.iconst 2, 1) := by decide +kernel
theorem dX6_areEmpty_28 : decode cX6_areEmpty 28 = .ok (.idiv, 1) := by decide +kernel
theorem dX6_areEmpty_29 : decode cX6_areEmpty 29 = .ok (.iadd, 1) := by decide +kernel
theorem dX6_areEmpty_30 : decode cX6_areEmpty 30 = .ok (.iconst 2, 1) := by decide +kernel
theorem dX6_areEmpty_31 : decode cX6_areEmpty 31 = .ok (.iload 4, 2) := by decide +kernel
theorem dX6_areEmpty_33 : decode cX6_areEmpty 33 = .ok (.imul, 1) := by decide +kernel
theorem dX6_areEmpty_34 : decode cX6_areEmpty 34 = .ok (.iload 6, 2) := by decide +kernel
theorem dX6_areEmpty_36 : decode cX6_areEmpty 36 = .ok (.iconst 2, 1) := by decide +kernel
theorem dX6_areEmpty_37 : decode cX6_areEmpty 37 = .ok (.irem, 1) := by decide +kernel
theorem dX6_areEmpty_38 : decode cX6_areEmpty 38 = .ok (.iadd, 1) := by decide +kernel
theorem dX6_areEmpty_39 : decode cX6_areEmpty 39 = .ok (.invokevirtual 59, 3) := by decide +kernel
theorem dX6_areEmpty_42 : decode cX6_areEmpty 42 = .ok (.ifCond .ne 7, 3) := by decide +kernel
theorem dX6_areEmpty_45 : decode cX6_areEmpty 45 = .ok (.iconst 1, 1) := by decide +kernel
theorem dX6_areEmpty_46 : decode cX6_areEmpty 46 = .ok (.goto 4, 3) := by decide +kernel
theorem dX6_areEmpty_49 : decode cX6_areEmpty 49 = .ok (.iconst 0, 1) := by decide +kernel
theorem dX6_areEmpty_50 : decode cX6_areEmpty 50 = .ok (.istore 5, 2) := by decide +kernel
theorem dX6_areEmpty_52 : decode cX6_areEmpty 52 = .ok (.iinc 6 1, 3) := by decide +kernel
theorem dX6_areEmpty_55 : decode cX6_areEmpty 55 = .ok (.goto (-49), 3) := by decide +kernel
theorem dX6_areEmpty_58 : decode cX6_areEmpty 58 = .ok (.iload 5, 2) := by decide +kernel
theorem dX6_areEmpty_60 : decode cX6_areEmpty 60 = .ok (.ireturn, 1) := by decide +kernel
theorem dX6_shrinksBlock_0 : decode cX6_shrinksBlock 0 = .ok (.iload_n 2, 1) := by decide +kernel
theorem dX6_shrinksBlock_1 : decode cX6_shrinksBlock 1 = .ok (.invokestatic 67, 3) := by decide +kernel
theorem dX6_shrinksBlock_4 : decode cX6_shrinksBlock 4 = .ok (.istore 5, 2) := by decide +kernel
theorem dX6_shrinksBlock_6 : decode cX6_shrinksBlock 6 = .ok (.aload_n 0, 1) := by decide +kernel
theorem dX6_shrinksBlock_7 : decode cX6_shrinksBlock 7 = .ok (.iload_n 1, 1) := by decide +kernel
theorem dX6_shrinksBlock_8 : decode cX6_shrinksBlock 8 = .ok (.iload_n 2, 1) := by decide +kernel
theorem dX6_shrinksBlock_9 : decode cX6_shrinksBlock 9 = .ok (.iload_n 3, 1) := by decide +kernel
theorem dX6_shrinksBlock_10 : decode cX6_shrinksBlock 10 = .ok (.iload 4, 2) := by decide +kernel
theorem dX6_shrinksBlock_12 : decode cX6_shrinksBlock 12 = .ok (.invokevirtual 59, 3) := by decide +kernel
theorem dX6_shrinksBlock_15 : decode cX6_shrinksBlock 15 = .ok (.istore 6, 2) := by decide +kernel
theorem dX6_shrinksBlock_17 : decode cX6_shrinksBlock 17 = .ok (.aload_n 0, 1) := by decide +kernel
theorem dX6_shrinksBlock_18 : decode cX6_shrinksBlock 18 = .ok (.iload_n 1, 1) := by decide +kernel
theorem dX6_shrinksBlock_19 : decode cX6_shrinksBlock 19 = .ok (.iload_n 3, 1) := by decide +kernel
theorem dX6_shrinksBlock_20 : decode cX6_shrinksBlock 20 = .ok (.iload 5, 2) := by decide +kernel
theorem dX6_shrinksBlock_22 : decode cX6_shrinksBlock 22 = .ok (.imul, 1) := by decide +kernel
theorem dX6_shrinksBlock_23 : decode cX6_shrinksBlock 23 = .ok (.iload 4, 2) := by decide +kernel
theorem dX6_shrinksBlock_25 : decode cX6_shrinksBlock 25 = .ok (.iload 5, 2) := by decide +kernel
theorem dX6_shrinksBlock_27 : decode cX6_shrinksBlock 27 = .ok (.imul, 1) := by decide +kernel
theorem dX6_shrinksBlock_28 : decode cX6_shrinksBlock 28 = .ok (.iload 5, 2) := by decide +kernel
theorem dX6_shrinksBlock_30 : decode cX6_shrinksBlock 30 = .ok (.invokevirtual 90, 3) := by decide +kernel
theorem dX6_shrinksBlock_33 : decode cX6_shrinksBlock 33 = .ok (.istore 7, 2) := by decide +kernel
theorem dX6_shrinksBlock_35 : decode cX6_shrinksBlock 35 = .ok (.iload 6, 2) := by decide +kernel
theorem dX6_shrinksBlock_37 : decode cX6_shrinksBlock 37 = .ok (.iconst 3, 1) := by decide +kernel
theorem dX6_shrinksBlock_38 : decode cX6_shrinksBlock 38 = .ok (.if_icmp .ne 70, 3) := by decide +kernel
theorem dX6_shrinksBlock_41 : decode cX6_shrinksBlock 41 = .ok (.iload 7, 2) := by decide +kernel
theorem dX6_shrinksBlock_43 : decode cX6_shrinksBlock 43 = .ok (.iconst 1, 1) := by decide +kernel
theorem dX6_shrinksBlock_44 : decode cX6_shrinksBlock 44 = .ok (.if_icmp .ne 23, 3) := by decide +kernel
theorem dX6_shrinksBlock_47 : decode cX6_shrinksBlock 47 = .ok (.iconst 2, 1) := by decide +kernel
theorem dX6_shrinksBlock_48 : decode cX6_shrinksBlock 48 = .ok (.iload 5, 2) := by decide +kernel
theorem dX6_shrinksBlock_50 : decode cX6_shrinksBlock 50 = .ok (.imul, 1) := by decide +kernel
theorem dX6_shrinksBlock_51 : decode cX6_shrinksBlock 51 = .ok (.aload_n 0, 1) := by decide +kernel
theorem dX6_shrinksBlock_52 : decode cX6_shrinksBlock 52 = .ok (.iload_n 1, 1) := by decide +kernel
theorem dX6_shrinksBlock_53 : decode cX6_shrinksBlock 53 = .ok (.iload_n 2, 1) := by decide +kernel
theorem dX6_shrinksBlock_54 : decode cX6_shrinksBlock 54 = .ok (.iload_n 3, 1) := by decide +kernel
theorem dX6_shrinksBlock_55 : decode cX6_shrinksBlock 55 = .ok (.iload 4, 2) := by decide +kernel
theorem dX6_shrinksBlock_57 : decode cX6_shrinksBlock 57 = .ok (.invokevirtual 75, 3) := by decide +kernel
theorem dX6_shrinksBlock_60 : decode cX6_shrinksBlock 60 = .ok (.if_icmp .gt 7, 3) := by decide +kernel
theorem dX6_shrinksBlock_63 : decode cX6_shrinksBlock 63 = .ok (.iconst 1, 1) := by decide +kernel
theorem dX6_shrinksBlock_64 : decode cX6_shrinksBlock 64 = .ok (.goto 4, 3) := by decide +kernel
theorem dX6_shrinksBlock_67 : decode cX6_shrinksBlock 67 = .ok (.iconst 0, 1) := by decide +kernel
theorem dX6_shrinksBlock_68 : decode cX6_shrinksBlock 68 = .ok (.istore 8, 2) := by decide +kernel
theorem dX6_shrinksBlock_70 : decode cX6_shrinksBlock 70 = .ok (.aload_n 0, 1) := by decide +kernel
theorem dX6_shrinksBlock_71 : decode cX6_shrinksBlock 71 = .ok (.iload_n 1, 1) := by decide +kernel
theorem dX6_shrinksBlock_72 : decode cX6_shrinksBlock 72 = .ok (.iload_n 2, 1) := by decide +kernel
theorem dX6_shrinksBlock_73 : decode cX6_shrinksBlock 73 = .ok (.iload_n 3, 1) := by decide +kernel
theorem dX6_shrinksBlock_74 : decode cX6_shrinksBlock 74 = .ok (.iload 4, 2) := by decide +kernel
theorem dX6_shrinksBlock_76 : decode cX6_shrinksBlock 76 = .ok (.aload_n 0, 1) := by decide +kernel
theorem dX6_shrinksBlock_77 : decode cX6_shrinksBlock 77 = .ok (.iload_n 1, 1) := by decide +kernel
theorem dX6_shrinksBlock_78 : decode cX6_shrinksBlock 78 = .ok (.iload_n 2, 1) := by decide +kernel
theorem dX6_shrinksBlock_79 : decode cX6_shrinksBlock 79 = .ok (.iload_n 3, 1) := by decide +kernel
theorem dX6_shrinksBlock_80 : decode cX6_shrinksBlock 80 = .ok (.iload 4, 2) := by decide +kernel
theorem dX6_shrinksBlock_82 : decode cX6_shrinksBlock 82 = .ok (.invokevirtual 93, 3) := by decide +kernel
theorem dX6_shrinksBlock_85 : decode cX6_shrinksBlock 85 = .ok (.ifCond .eq 7, 3) := by decide +kernel
theorem dX6_shrinksBlock_88 : decode cX6_shrinksBlock 88 = .ok (.iconst 0, 1) := by decide +kernel
theorem dX6_shrinksBlock_89 : decode cX6_shrinksBlock 89 = .ok (.goto 13, 3) := by decide +kernel
theorem dX6_shrinksBlock_92 : decode cX6_shrinksBlock 92 = .ok (.iload 8, 2) := by decide +kernel
theorem dX6_shrinksBlock_94 : decode cX6_shrinksBlock 94 = .ok (.ifCond .eq 7, 3) := by decide +kernel
theorem dX6_shrinksBlock_97 : decode cX6_shrinksBlock 97 = .ok (.iconst 2, 1) := by decide +kernel
theorem dX6_shrinksBlock_98 : decode cX6_shrinksBlock 98 = .ok (.goto 4, 3) := by decide +kernel
theorem dX6_shrinksBlock_101 : decode cX6_shrinksBlock 101 = .ok (.iconst 3, 1) := by decide +kernel
theorem dX6_shrinksBlock_102 : decode cX6_shrinksBlock 102 = .ok (.invokevirtual 96, 3) := by decide +kernel
theorem dX6_shrinksBlock_105 : decode cX6_shrinksBlock 105 = .ok (.goto 39, 3) := by decide +kernel
theorem dX6_shrinksBlock_108 : decode cX6_shrinksBlock 108 = .ok (.iload 6, 2) := by decide +kernel
theorem dX6_shrinksBlock_110 : decode cX6_shrinksBlock 110 = .ok (.ifCond .eq 34, 3) := by decide +kernel
theorem dX6_shrinksBlock_113 : decode cX6_shrinksBlock 113 = .ok (.aload_n 0, 1) := by decide +kernel
theorem dX6_shrinksBlock_114 : decode cX6_shrinksBlock 114 = .ok (.iload_n 1, 1) := by decide +kernel
theorem dX6_shrinksBlock_115 : decode cX6_shrinksBlock 115 = .ok (.iload_n 2, 1) := by decide +kernel
theorem dX6_shrinksBlock_116 : decode cX6_shrinksBlock 116 = .ok (.iload_n 3, 1) := by decide +kernel
theorem dX6_shrinksBlock_117 : decode cX6_shrinksBlock 117 = .ok (.iload 4, 2) := by decide +kernel
theorem dX6_shrinksBlock_119 : decode cX6_shrinksBlock 119 = .ok (.iload 7, 2) := by decide +kernel
theorem dX6_shrinksBlock_121 : decode cX6_shrinksBlock 121 = .ok (.iconst 2, 1) := by decide +kernel
theorem dX6_shrinksBlock_122 : decode cX6_shrinksBlock 122 = .ok (.if_icmp .ne 7, 3) := by decide +kernel
theorem dX6_shrinksBlock_125 : decode cX6_shrinksBlock 125 = .ok (.iconst 0, 1) := by decide +kernel
theorem dX6_shrinksBlock_126 : decode cX6_shrinksBlock 126 = .ok (.goto 15, 3) := by decide +kernel
theorem dX6_shrinksBlock_129 : decode cX6_shrinksBlock 129 = .ok (.iload 7, 2) := by decide +kernel
theorem dX6_shrinksBlock_131 : decode cX6_shrinksBlock 131 = .ok (.iconst 1, 1) := by decide +kernel
theorem dX6_shrinksBlock_132 : decode cX6_shrinksBlock 132 = .ok (.if_icmp .ne 7, 3) := by decide +kernel
theorem dX6_shrinksBlock_135 : decode cX6_shrinksBlock 135 = .ok (.iconst 2, 1) := by decide +kernel
theorem dX6_shrinksBlock_136 : decode cX6_shrinksBlock 136 = .ok (.goto 5, 3) := by decide +kernel
theorem dX6_shrinksBlock_139 : decode cX6_shrinksBlock 139 = .ok (.iload 6, 2) := by decide +kernel
theorem dX6_shrinksBlock_141 : decode cX6_shrinksBlock 141 = .ok (.invokevirtual 96, 3) := by decide +kernel
theorem dX6_shrinksBlock_144 : decode cX6_shrinksBlock 144 = .ok (.return_, 1) := by decide +kernel
theorem dX6_shrinks_0 : decode cX6_shrinks 0 = .ok (.iconst 3, 1) := by decide +kernel
theorem dX6_shrinks_1 : decode cX6_shrinks 1 = .ok (.istore_n 2, 1) := by decide +kernel
theorem dX6_shrinks_2 : decode cX6_shrinks 2 = .ok (.iload_n 2, 1) := by decide +kernel
theorem dX6_shrinks_3 : decode cX6_shrinks 3 = .ok (.ifCond .lt 61, 3) := by decide +kernel
theorem dX6_shrinks_6 : decode cX6_shrinks 6 = .ok (.iconst 1, 1) := by decide +kernel
theorem dX6_shrinks_7 : decode cX6_shrinks 7 = .ok (.iload_n 2, 1) := by decide +kernel
theorem dX6_shrinks_8 : decode cX6_shrinks 8 = .ok (.ishl, 1) := by decide +kernel
theorem dX6_shrinks_9 : decode cX6_shrinks 9 = .ok (.istore_n 3, 1) := by decide +kernel
theorem dX6_shrinks_10 : decode cX6_shrinks 10 = .ok (.iconst 0, 1) := by decide +kernel
theorem dX6_shrinks_11 : decode cX6_shrinks 11 = .ok (.istore 4, 2) := by decide +kernel
theorem dX6_shrinks_13 : decode cX6_shrinks 13 = .ok (.iload 4, 2) := by decide +kernel
theorem dX6_shrinks_15 : decode cX6_shrinks 15 = .ok (.iload_n 3, 1) := by decide +kernel
theorem dX6_shrinks_16 : decode cX6_shrinks 16 = .ok (.iload_n 3, 1) := by decide +kernel
theorem dX6_shrinks_17 : decode cX6_shrinks 17 = .ok (.imul, 1) := by decide +kernel
theorem dX6_shrinks_18 : decode cX6_shrinks 18 = .ok (.if_icmp .ge 40, 3) := by decide +kernel
theorem dX6_shrinks_21 : decode cX6_shrinks 21 = .ok (.aload_n 0, 1) := by decide +kernel
theorem dX6_shrinks_22 : decode cX6_shrinks 22 = .ok (.iload_n 1, 1) := by decide +kernel
theorem dX6_shrinks_23 : decode cX6_shrinks 23 = .ok (.iload_n 2, 1) := by decide +kernel
theorem dX6_shrinks_24 : decode cX6_shrinks 24 = .ok (.iload 4, 2) := by decide +kernel
theorem dX6_shrinks_26 : decode cX6_shrinks 26 = .ok (.iload_n 3, 1) := by decide +kernel
theorem dX6_shrinks_27 : decode cX6_shrinks 27 = .ok (.idiv, 1) := by decide +kernel
theorem dX6_shrinks_28 : decode cX6_shrinks 28 = .ok (.iload 4, 2) := by decide +kernel
theorem dX6_shrinks_30 : decode cX6_shrinks 30 = .ok (.iload_n 3, 1) := by decide +kernel
theorem dX6_shrinks_31 : decode cX6_shrinks 31 = .ok (.irem, 1) := by decide +kernel
theorem dX6_shrinks_32 : decode cX6_shrinks 32 = .ok (.invokevirtual 63, 3) := by decide +kernel
theorem dX6_shrinks_35 : decode cX6_shrinks 35 = .ok (.ifCond .eq 17, 3) := by decide +kernel
theorem dX6_shrinks_38 : decode cX6_shrinks 38 = .ok (.aload_n 0, 1) := by decide +kernel
theorem dX6_shrinks_39 : decode cX6_shrinks 39 = .ok (.iload_n 1, 1) := by decide +kernel
theorem dX6_shrinks_40 : decode cX6_shrinks 40 = .ok (.iload_n 2, 1) := by decide +kernel
theorem dX6_shrinks_41 : decode cX6_shrinks 41 = .ok (.iload 4, 2) := by decide +kernel
theorem dX6_shrinks_43 : decode cX6_shrinks 43 = .ok (.iload_n 3, 1) := by decide +kernel
theorem dX6_shrinks_44 : decode cX6_shrinks 44 = .ok (.idiv, 1) := by decide +kernel
theorem dX6_shrinks_45 : decode cX6_shrinks 45 = .ok (.iload 4, 2) := by decide +kernel
theorem dX6_shrinks_47 : decode cX6_shrinks 47 = .ok (.iload_n 3, 1) := by decide +kernel
theorem dX6_shrinks_48 : decode cX6_shrinks 48 = .ok (.irem, 1) := by decide +kernel
theorem dX6_shrinks_49 : decode cX6_shrinks 49 = .ok (.invokevirtual 100, 3) := by decide +kernel
theorem dX6_shrinks_52 : decode cX6_shrinks 52 = .ok (.iinc 4 1, 3) := by decide +kernel
theorem dX6_shrinks_55 : decode cX6_shrinks 55 = .ok (.goto (-42), 3) := by decide +kernel
theorem dX6_shrinks_58 : decode cX6_shrinks 58 = .ok (.iinc 2 (-1), 3) := by decide +kernel
theorem dX6_shrinks_61 : decode cX6_shrinks 61 = .ok (.goto (-59), 3) := by decide +kernel
theorem dX6_shrinks_64 : decode cX6_shrinks 64 = .ok (.return_, 1) := by decide +kernel
theorem dX6_tell_0 : decode cX6_tell 0 = .ok (.aload_n 0, 1) := by decide +kernel
theorem dX6_tell_1 : decode cX6_tell 1 = .ok (.iconst 0, 1) := by decide +kernel
theorem dX6_tell_2 : decode cX6_tell 2 = .ok (.putfield 41, 3) := by decide +kernel
theorem dX6_tell_5 : decode cX6_tell 5 = .ok (.iload_n 1, 1) := by decide +kernel
theorem dX6_tell_6 : decode cX6_tell 6 = .ok (.invokestatic 104, 3) := by decide +kernel
theorem dX6_tell_9 : decode cX6_tell 9 = .ok (.ifCond .ne 5, 3) := by decide +kernel
theorem dX6_tell_12 : decode cX6_tell 12 = .ok (.iconst (-1), 1) := by decide +kernel
theorem dX6_tell_13 : decode cX6_tell 13 = .ok (.ireturn, 1) := by decide +kernel
theorem dX6_tell_14 : decode cX6_tell 14 = .ok (.aload_n 0, 1) := by decide +kernel
theorem dX6_tell_15 : decode cX6_tell 15 = .ok (.invokevirtual 108, 3) := by decide +kernel
theorem dX6_tell_18 : decode cX6_tell 18 = .ok (.bipush (-6), 2) := by decide +kernel
theorem dX6_tell_20 : decode cX6_tell 20 = .ok (.if_icmp .eq 6, 3) := by decide +kernel
theorem dX6_tell_23 : decode cX6_tell 23 = .ok (.bipush (-3), 2) := by decide +kernel
theorem dX6_tell_25 : decode cX6_tell 25 = .ok (.ireturn, 1) := by decide +kernel
theorem dX6_tell_26 : decode cX6_tell 26 = .ok (.aload_n 0, 1) := by decide +kernel
theorem dX6_tell_27 : decode cX6_tell 27 = .ok (.invokevirtual 112, 3) := by decide +kernel
theorem dX6_tell_30 : decode cX6_tell 30 = .ok (.aload_n 0, 1) := by decide +kernel
theorem dX6_tell_31 : decode cX6_tell 31 = .ok (.iconst 0, 1) := by decide +kernel
theorem dX6_tell_32 : decode cX6_tell 32 = .ok (.putfield 115, 3) := by decide +kernel
theorem dX6_tell_35 : decode cX6_tell 35 = .ok (.iconst 0, 1) := by decide +kernel
theorem dX6_tell_36 : decode cX6_tell 36 = .ok (.istore_n 2, 1) := by decide +kernel
theorem dX6_tell_37 : decode cX6_tell 37 = .ok (.iload_n 2, 1) := by decide +kernel
theorem dX6_tell_38 : decode cX6_tell 38 = .ok (.sipush 341, 3) := by decide +kernel
theorem dX6_tell_41 : decode cX6_tell 41 = .ok (.if_icmp .ge 27, 3) := by decide +kernel
theorem dX6_tell_44 : decode cX6_tell 44 = .ok (.aload_n 0, 1) := by decide +kernel
theorem dX6_tell_45 : decode cX6_tell 45 = .ok (.getfield 7, 3) := by decide +kernel
theorem dX6_tell_48 : decode cX6_tell 48 = .ok (.sipush 341, 3) := by decide +kernel
theorem dX6_tell_51 : decode cX6_tell 51 = .ok (.iload_n 1, 1) := by decide +kernel
theorem dX6_tell_52 : decode cX6_tell 52 = .ok (.imul, 1) := by decide +kernel
theorem dX6_tell_53 : decode cX6_tell 53 = .ok (.iload_n 2, 1) := by decide +kernel
theorem dX6_tell_54 : decode cX6_tell 54 = .ok (.iadd, 1) := by decide +kernel
theorem dX6_tell_55 : decode cX6_tell 55 = .ok (.aload_n 0, 1) := by decide +kernel
theorem dX6_tell_56 : decode cX6_tell 56 = .ok (.getfield 29, 3) := by decide +kernel
theorem dX6_tell_59 : decode cX6_tell 59 = .ok (.iload_n 2, 1) := by decide +kernel
theorem dX6_tell_60 : decode cX6_tell 60 = .ok (.iaload, 1) := by decide +kernel
theorem dX6_tell_61 : decode cX6_tell 61 = .ok (.iastore, 1) := by decide +kernel
theorem dX6_tell_62 : decode cX6_tell 62 = .ok (.iinc 2 1, 3) := by decide +kernel
theorem dX6_tell_65 : decode cX6_tell 65 = .ok (.goto (-28), 3) := by decide +kernel
theorem dX6_tell_68 : decode cX6_tell 68 = .ok (.aload_n 0, 1) := by decide +kernel
theorem dX6_tell_69 : decode cX6_tell 69 = .ok (.iload_n 1, 1) := by decide +kernel
theorem dX6_tell_70 : decode cX6_tell 70 = .ok (.invokevirtual 78, 3) := by decide +kernel
theorem dX6_tell_73 : decode cX6_tell 73 = .ok (.ireturn, 1) := by decide +kernel
theorem dX6_cuts_0 : decode cX6_cuts 0 = .ok (.aload_n 0, 1) := by decide +kernel
theorem dX6_cuts_1 : decode cX6_cuts 1 = .ok (.iload_n 1, 1) := by decide +kernel
theorem dX6_cuts_2 : decode cX6_cuts 2 = .ok (.iload_n 2, 1) := by decide +kernel
theorem dX6_cuts_3 : decode cX6_cuts 3 = .ok (.iload_n 3, 1) := by decide +kernel
theorem dX6_cuts_4 : decode cX6_cuts 4 = .ok (.iload 4, 2) := by decide +kernel
theorem dX6_cuts_6 : decode cX6_cuts 6 = .ok (.invokevirtual 59, 3) := by decide +kernel
theorem dX6_cuts_9 : decode cX6_cuts 9 = .ok (.istore 5, 2) := by decide +kernel
theorem dX6_cuts_11 : decode cX6_cuts 11 = .ok (.iload 5, 2) := by decide +kernel
theorem dX6_cuts_13 : decode cX6_cuts 13 = .ok (.iconst 3, 1) := by decide +kernel
theorem dX6_cuts_14 : decode cX6_cuts 14 = .ok (.if_icmp .eq 55, 3) := by decide +kernel
theorem dX6_cuts_17 : decode cX6_cuts 17 = .ok (.aload_n 0, 1) := by decide +kernel
theorem dX6_cuts_18 : decode cX6_cuts 18 = .ok (.iload_n 1, 1) := by decide +kernel
theorem dX6_cuts_19 : decode cX6_cuts 19 = .ok (.iload_n 2, 1) := by decide +kernel
theorem dX6_cuts_20 : decode cX6_cuts 20 = .ok (.iload_n 3, 1) := by decide +kernel
theorem dX6_cuts_21 : decode cX6_cuts 21 = .ok (.iload 4, 2) := by decide +kernel
theorem dX6_cuts_23 : decode cX6_cuts 23 = .ok (.iconst 3, 1) := by decide +kernel
theorem dX6_cuts_24 : decode cX6_cuts 24 = .ok (.invokevirtual 96, 3) := by decide +kernel
theorem dX6_cuts_27 : decode cX6_cuts 27 = .ok (.iconst 0, 1) := by decide +kernel
theorem dX6_cuts_28 : decode cX6_cuts 28 = .ok (.istore 6, 2) := by decide +kernel
theorem dX6_cuts_30 : decode cX6_cuts 30 = .ok (.iload 6, 2) := by decide +kernel
theorem dX6_cuts_32 : decode cX6_cuts 32 = .ok (.iconst 4, 1) := by decide +kernel
theorem dX6_cuts_33 : decode cX6_cuts 33 = .ok (.if_icmp .ge 36, 3) := by decide +kernel
theorem dX6_cuts_36 : decode cX6_cuts 36 = .ok (.aload_n 0, 1) := by decide +kernel
theorem dX6_cuts_37 : decode cX6_cuts 37 = .ok (.iload_n 1, 1) := by decide +kernel
theorem dX6_cuts_38 : decode cX6_cuts 38 = .ok (.iload_n 2, 1) := by decide +kernel
theorem dX6_cuts_39 : decode cX6_cuts 39 = .ok (.iconst 1, 1) := by decide +kernel
theorem dX6_cuts_40 : decode cX6_cuts 40 = .ok (.iadd, 1) := by decide +kernel
theorem dX6_cuts_41 : decode cX6_cuts 41 = .ok (.iconst 2, 1) := by decide +kernel
theorem dX6_cuts_42 : decode cX6_cuts 42 = .ok (.iload_n 3, 1) := by decide +kernel
theorem dX6_cuts_43 : decode cX6_cuts 43 = .ok (.imul, 1) := by decide +kernel
theorem dX6_cuts_44 : decode cX6_cuts 44 = .ok (.iload 6, 2) := by decide +kernel
theorem dX6_cuts_46 : decode cX6_cuts 46 = .ok (.iconst 2, 1) := by decide +kernel
theorem dX6_cuts_47 : decode cX6_cuts 47 = .ok (.idiv, 1) := by decide +kernel
theorem dX6_cuts_48 : decode cX6_cuts 48 = .ok (.iadd, 1) := by decide +kernel
theorem dX6_cuts_49 : decode cX6_cuts 49 = .ok (.iconst 2, 1) := by decide +kernel
theorem dX6_cuts_50 : decode cX6_cuts 50 = .ok (.iload 4, 2) := by decide +kernel
theorem dX6_cuts_52 : decode cX6_cuts 52 = .ok (.imul, 1) := by decide +kernel
theorem dX6_cuts_53 : decode cX6_cuts 53 = .ok (.iload 6, 2) := by decide +kernel
theorem dX6_cuts_55 : decode cX6_cuts 55 = .ok (.iconst 2, 1) := by decide +kernel
theorem dX6_cuts_56 : decode cX6_cuts 56 = .ok (.irem, 1) := by decide +kernel
theorem dX6_cuts_57 : decode cX6_cuts 57 = .ok (.iadd, 1) := by decide +kernel
theorem dX6_cuts_58 : decode cX6_cuts 58 = .ok (.iload 5, 2) := by decide +kernel
theorem dX6_cuts_60 : decode cX6_cuts 60 = .ok (.invokevirtual 96, 3) := by decide +kernel
theorem dX6_cuts_63 : decode cX6_cuts 63 = .ok (.iinc 6 1, 3) := by decide +kernel
theorem dX6_cuts_66 : decode cX6_cuts 66 = .ok (.goto (-36), 3) := by decide +kernel
theorem dX6_cuts_69 : decode cX6_cuts 69 = .ok (.return_, 1) := by decide +kernel
theorem dX6_entry_0 : decode cX6_entry 0 = .ok (.aload_n 0, 1) := by decide +kernel
theorem dX6_entry_1 : decode cX6_entry 1 = .ok (.iconst 0, 1) := by decide +kernel
theorem dX6_entry_2 : decode cX6_entry 2 = .ok (.putfield 41, 3) := by decide +kernel
theorem dX6_entry_5 : decode cX6_entry 5 = .ok (.iload_n 1, 1) := by decide +kernel
theorem dX6_entry_6 : decode cX6_entry 6 = .ok (.invokestatic 104, 3) := by decide +kernel
theorem dX6_entry_9 : decode cX6_entry 9 = .ok (.ifCond .eq 11, 3) := by decide +kernel
theorem dX6_entry_12 : decode cX6_entry 12 = .ok (.iload_n 2, 1) := by decide +kernel
theorem dX6_entry_13 : decode cX6_entry 13 = .ok (.iload_n 3, 1) := by decide +kernel
theorem dX6_entry_14 : decode cX6_entry 14 = .ok (.invokestatic 118, 3) := by decide +kernel
theorem dX6_entry_17 : decode cX6_entry 17 = .ok (.ifCond .ne 5, 3) := by decide +kernel
theorem dX6_entry_20 : decode cX6_entry 20 = .ok (.iconst (-1), 1) := by decide +kernel
theorem dX6_entry_21 : decode cX6_entry 21 = .ok (.ireturn, 1) := by decide +kernel
theorem dX6_entry_22 : decode cX6_entry 22 = .ok (.iload 4, 2) := by decide +kernel
theorem dX6_entry_24 : decode cX6_entry 24 = .ok (.ldc 122, 2) := by decide +kernel
theorem dX6_entry_26 : decode cX6_entry 26 = .ok (.ldc 123, 2) := by decide +kernel
theorem dX6_entry_28 : decode cX6_entry 28 = .ok (.invokestatic 45, 3) := by decide +kernel
theorem dX6_entry_31 : decode cX6_entry 31 = .ok (.ifCond .ne 6, 3) := by decide +kernel
theorem dX6_entry_34 : decode cX6_entry 34 = .ok (.bipush (-2), 2) := by decide +kernel
theorem dX6_entry_36 : decode cX6_entry 36 = .ok (.ireturn, 1) := by decide +kernel
theorem dX6_entry_37 : decode cX6_entry 37 = .ok (.aload_n 0, 1) := by decide +kernel
theorem dX6_entry_38 : decode cX6_entry 38 = .ok (.invokevirtual 112, 3) := by decide +kernel
theorem dX6_entry_41 : decode cX6_entry 41 = .ok (.iconst 0, 1) := by decide +kernel
theorem dX6_entry_42 : decode cX6_entry 42 = .ok (.istore 5, 2) := by decide +kernel
theorem dX6_entry_44 : decode cX6_entry 44 = .ok (.iload 5, 2) := by decide +kernel
theorem dX6_entry_46 : decode cX6_entry 46 = .ok (.iconst 3, 1) := by decide +kernel
theorem dX6_entry_47 : decode cX6_entry 47 = .ok (.if_icmp .ge 30, 3) := by decide +kernel
theorem dX6_entry_50 : decode cX6_entry 50 = .ok (.aload_n 0, 1) := by decide +kernel
theorem dX6_entry_51 : decode cX6_entry 51 = .ok (.iload_n 1, 1) := by decide +kernel
theorem dX6_entry_52 : decode cX6_entry 52 = .ok (.iload 5, 2) := by decide +kernel
theorem dX6_entry_54 : decode cX6_entry 54 = .ok (.iload_n 2, 1) := by decide +kernel
theorem dX6_entry_55 : decode cX6_entry 55 = .ok (.iload 5, 2) := by decide +kernel
theorem dX6_entry_57 : decode cX6_entry 57 = .ok (.invokestatic 67, 3) := by decide +kernel
theorem dX6_entry_60 : decode cX6_entry 60 = .ok (.idiv, 1) := by decide +kernel
theorem dX6_entry_61 : decode cX6_entry 61 = .ok (.iload_n 3, 1) := by decide +kernel
theorem dX6_entry_62 : decode cX6_entry 62 = .ok (.iload 5, 2) := by decide +kernel
theorem dX6_entry_64 : decode cX6_entry 64 = .ok (.invokestatic 67, 3) := by decide +kernel
theorem dX6_entry_67 : decode cX6_entry 67 = .ok (.idiv, 1) := by decide +kernel
theorem dX6_entry_68 : decode cX6_entry 68 = .ok (.invokevirtual 124, 3) := by decide +kernel
theorem dX6_entry_71 : decode cX6_entry 71 = .ok (.iinc 5 1, 3) := by decide +kernel
theorem dX6_entry_74 : decode cX6_entry 74 = .ok (.goto (-30), 3) := by decide +kernel
theorem dX6_entry_77 : decode cX6_entry 77 = .ok (.aload_n 0, 1) := by decide +kernel
theorem dX6_entry_78 : decode cX6_entry 78 = .ok (.iload_n 1, 1) := by decide +kernel
theorem dX6_entry_79 : decode cX6_entry 79 = .ok (.iconst 3, 1) := by decide +kernel
theorem dX6_entry_80 : decode cX6_entry 80 = .ok (.iload_n 2, 1) := by decide +kernel
theorem dX6_entry_81 : decode cX6_entry 81 = .ok (.iconst 2, 1) := by decide +kernel
theorem dX6_entry_82 : decode cX6_entry 82 = .ok (.idiv, 1) := by decide +kernel
theorem dX6_entry_83 : decode cX6_entry 83 = .ok (.iload_n 3, 1) := by decide +kernel
theorem dX6_entry_84 : decode cX6_entry 84 = .ok (.iconst 2, 1) := by decide +kernel
theorem dX6_entry_85 : decode cX6_entry 85 = .ok (.idiv, 1) := by decide +kernel
theorem dX6_entry_86 : decode cX6_entry 86 = .ok (.iconst 1, 1) := by decide +kernel
theorem dX6_entry_87 : decode cX6_entry 87 = .ok (.invokevirtual 96, 3) := by decide +kernel
theorem dX6_entry_90 : decode cX6_entry 90 = .ok (.aload_n 0, 1) := by decide +kernel
theorem dX6_entry_91 : decode cX6_entry 91 = .ok (.iload_n 1, 1) := by decide +kernel
theorem dX6_entry_92 : decode cX6_entry 92 = .ok (.iload_n 2, 1) := by decide +kernel
theorem dX6_entry_93 : decode cX6_entry 93 = .ok (.iload_n 3, 1) := by decide +kernel
theorem dX6_entry_94 : decode cX6_entry 94 = .ok (.invokevirtual 81, 3) := by decide +kernel
theorem dX6_entry_97 : decode cX6_entry 97 = .ok (.istore 5, 2) := by decide +kernel
theorem dX6_entry_99 : decode cX6_entry 99 = .ok (.aload_n 0, 1) := by decide +kernel
theorem dX6_entry_100 : decode cX6_entry 100 = .ok (.iload_n 1, 1) := by decide +kernel
theorem dX6_entry_101 : decode cX6_entry 101 = .ok (.iload_n 2, 1) := by decide +kernel
theorem dX6_entry_102 : decode cX6_entry 102 = .ok (.iload_n 3, 1) := by decide +kernel
theorem dX6_entry_103 : decode cX6_entry 103 = .ok (.iload 4, 2) := by decide +kernel
theorem dX6_entry_105 : decode cX6_entry 105 = .ok (.invokevirtual 127, 3) := by decide +kernel
theorem dX6_entry_108 : decode cX6_entry 108 = .ok (.iload 5, 2) := by decide +kernel
theorem dX6_entry_110 : decode cX6_entry 110 = .ok (.ldc 123, 2) := by decide +kernel
theorem dX6_entry_112 : decode cX6_entry 112 = .ok (.iadd, 1) := by decide +kernel
theorem dX6_entry_113 : decode cX6_entry 113 = .ok (.ireturn, 1) := by decide +kernel
theorem dX6_shrink_0 : decode cX6_shrink 0 = .ok (.aload_n 0, 1) := by decide +kernel
theorem dX6_shrink_1 : decode cX6_shrink 1 = .ok (.iconst 0, 1) := by decide +kernel
theorem dX6_shrink_2 : decode cX6_shrink 2 = .ok (.putfield 41, 3) := by decide +kernel
theorem dX6_shrink_5 : decode cX6_shrink 5 = .ok (.iload_n 1, 1) := by decide +kernel
theorem dX6_shrink_6 : decode cX6_shrink 6 = .ok (.invokestatic 104, 3) := by decide +kernel
theorem dX6_shrink_9 : decode cX6_shrink 9 = .ok (.ifCond .ne 5, 3) := by decide +kernel
theorem dX6_shrink_12 : decode cX6_shrink 12 = .ok (.iconst (-1), 1) := by decide +kernel
theorem dX6_shrink_13 : decode cX6_shrink 13 = .ok (.ireturn, 1) := by decide +kernel
theorem dX6_shrink_14 : decode cX6_shrink 14 = .ok (.aload_n 0, 1) := by decide +kernel
theorem dX6_shrink_15 : decode cX6_shrink 15 = .ok (.invokevirtual 112, 3) := by decide +kernel
theorem dX6_shrink_18 : decode cX6_shrink 18 = .ok (.aload_n 0, 1) := by decide +kernel
theorem dX6_shrink_19 : decode cX6_shrink 19 = .ok (.iload_n 1, 1) := by decide +kernel
theorem dX6_shrink_20 : decode cX6_shrink 20 = .ok (.invokevirtual 78, 3) := by decide +kernel
theorem dX6_shrink_23 : decode cX6_shrink 23 = .ok (.istore_n 2, 1) := by decide +kernel
theorem dX6_shrink_24 : decode cX6_shrink 24 = .ok (.aload_n 0, 1) := by decide +kernel
theorem dX6_shrink_25 : decode cX6_shrink 25 = .ok (.iload_n 1, 1) := by decide +kernel
theorem dX6_shrink_26 : decode cX6_shrink 26 = .ok (.invokevirtual 130, 3) := by decide +kernel
theorem dX6_shrink_29 : decode cX6_shrink 29 = .ok (.iload_n 2, 1) := by decide +kernel
theorem dX6_shrink_30 : decode cX6_shrink 30 = .ok (.aload_n 0, 1) := by decide +kernel
theorem dX6_shrink_31 : decode cX6_shrink 31 = .ok (.iload_n 1, 1) := by decide +kernel
theorem dX6_shrink_32 : decode cX6_shrink 32 = .ok (.invokevirtual 78, 3) := by decide +kernel
theorem dX6_shrink_35 : decode cX6_shrink 35 = .ok (.isub, 1) := by decide +kernel
theorem dX6_shrink_36 : decode cX6_shrink 36 = .ok (.ireturn, 1) := by decide +kernel
theorem dX6_bounded_0 : decode cX6_bounded 0 = .ok (.iload_n 0, 1) := by decide +kernel
theorem dX6_bounded_1 : decode cX6_bounded 1 = .ok (.ldc 123, 2) := by decide +kernel
theorem dX6_bounded_3 : decode cX6_bounded 3 = .ok (.if_icmp .le 8, 3) := by decide +kernel
theorem dX6_bounded_6 : decode cX6_bounded 6 = .ok (.ldc 123, 2) := by decide +kernel
theorem dX6_bounded_8 : decode cX6_bounded 8 = .ok (.goto 15, 3) := by decide +kernel
theorem dX6_bounded_11 : decode cX6_bounded 11 = .ok (.iload_n 0, 1) := by decide +kernel
theorem dX6_bounded_12 : decode cX6_bounded 12 = .ok (.ldc 122, 2) := by decide +kernel
theorem dX6_bounded_14 : decode cX6_bounded 14 = .ok (.if_icmp .ge 8, 3) := by decide +kernel
theorem dX6_bounded_17 : decode cX6_bounded 17 = .ok (.ldc 122, 2) := by decide +kernel
theorem dX6_bounded_19 : decode cX6_bounded 19 = .ok (.goto 4, 3) := by decide +kernel
theorem dX6_bounded_22 : decode cX6_bounded 22 = .ok (.iload_n 0, 1) := by decide +kernel
theorem dX6_bounded_23 : decode cX6_bounded 23 = .ok (.ireturn, 1) := by decide +kernel
theorem dX6_addsSquare_0 : decode cX6_addsSquare 0 = .ok (.iconst 0, 1) := by decide +kernel
theorem dX6_addsSquare_1 : decode cX6_addsSquare 1 = .ok (.istore 7, 2) := by decide +kernel
theorem dX6_addsSquare_3 : decode cX6_addsSquare 3 = .ok (.iload 7, 2) := by decide +kernel
theorem dX6_addsSquare_5 : decode cX6_addsSquare 5 = .ok (.iload 6, 2) := by decide +kernel
theorem dX6_addsSquare_7 : decode cX6_addsSquare 7 = .ok (.iload 6, 2) := by decide +kernel
theorem dX6_addsSquare_9 : decode cX6_addsSquare 9 = .ok (.imul, 1) := by decide +kernel
theorem dX6_addsSquare_10 : decode cX6_addsSquare 10 = .ok (.if_icmp .ge 62, 3) := by decide +kernel
theorem dX6_addsSquare_13 : decode cX6_addsSquare 13 = .ok (.iload 4, 2) := by decide +kernel
theorem dX6_addsSquare_15 : decode cX6_addsSquare 15 = .ok (.iload 7, 2) := by decide +kernel
theorem dX6_addsSquare_17 : decode cX6_addsSquare 17 = .ok (.iload 6, 2) := by decide +kernel
theorem dX6_addsSquare_19 : decode cX6_addsSquare 19 = .ok (.idiv, 1) := by decide +kernel
theorem dX6_addsSquare_20 : decode cX6_addsSquare 20 = .ok (.iadd, 1) := by decide +kernel
theorem dX6_addsSquare_21 : decode cX6_addsSquare 21 = .ok (.istore 8, 2) := by decide +kernel
theorem dX6_addsSquare_23 : decode cX6_addsSquare 23 = .ok (.iload 5, 2) := by decide +kernel
theorem dX6_addsSquare_25 : decode cX6_addsSquare 25 = .ok (.iload 7, 2) := by decide +kernel
theorem dX6_addsSquare_27 : decode cX6_addsSquare 27 = .ok (.iload 6, 2) := by decide +kernel
theorem dX6_addsSquare_29 : decode cX6_addsSquare 29 = .ok (.irem, 1) := by decide +kernel
theorem dX6_addsSquare_30 : decode cX6_addsSquare 30 = .ok (.iadd, 1) := by decide +kernel
theorem dX6_addsSquare_31 : decode cX6_addsSquare 31 = .ok (.istore 9, 2) := by decide +kernel
theorem dX6_addsSquare_33 : decode cX6_addsSquare 33 = .ok (.aload_n 0, 1) := by decide +kernel
theorem dX6_addsSquare_34 : decode cX6_addsSquare 34 = .ok (.iload_n 1, 1) := by decide +kernel
theorem dX6_addsSquare_35 : decode cX6_addsSquare 35 = .ok (.iload 8, 2) := by decide +kernel
theorem dX6_addsSquare_37 : decode cX6_addsSquare 37 = .ok (.iload 9, 2) := by decide +kernel
theorem dX6_addsSquare_39 : decode cX6_addsSquare 39 = .ok (.aload_n 0, 1) := by decide +kernel
theorem dX6_addsSquare_40 : decode cX6_addsSquare 40 = .ok (.iload_n 1, 1) := by decide +kernel
theorem dX6_addsSquare_41 : decode cX6_addsSquare 41 = .ok (.iload 8, 2) := by decide +kernel
theorem dX6_addsSquare_43 : decode cX6_addsSquare 43 = .ok (.iload 9, 2) := by decide +kernel
theorem dX6_addsSquare_45 : decode cX6_addsSquare 45 = .ok (.invokevirtual 81, 3) := by decide +kernel
theorem dX6_addsSquare_48 : decode cX6_addsSquare 48 = .ok (.iload_n 3, 1) := by decide +kernel
theorem dX6_addsSquare_49 : decode cX6_addsSquare 49 = .ok (.aload_n 0, 1) := by decide +kernel
theorem dX6_addsSquare_50 : decode cX6_addsSquare 50 = .ok (.iload_n 2, 1) := by decide +kernel
theorem dX6_addsSquare_51 : decode cX6_addsSquare 51 = .ok (.iload 8, 2) := by decide +kernel
theorem dX6_addsSquare_53 : decode cX6_addsSquare 53 = .ok (.iload 9, 2) := by decide +kernel
theorem dX6_addsSquare_55 : decode cX6_addsSquare 55 = .ok (.invokevirtual 81, 3) := by decide +kernel
theorem dX6_addsSquare_58 : decode cX6_addsSquare 58 = .ok (.imul, 1) := by decide +kernel
theorem dX6_addsSquare_59 : decode cX6_addsSquare 59 = .ok (.iadd, 1) := by decide +kernel
theorem dX6_addsSquare_60 : decode cX6_addsSquare 60 = .ok (.invokestatic 134, 3) := by decide +kernel
theorem dX6_addsSquare_63 : decode cX6_addsSquare 63 = .ok (.invokevirtual 127, 3) := by decide +kernel
theorem dX6_addsSquare_66 : decode cX6_addsSquare 66 = .ok (.iinc 7 1, 3) := by decide +kernel
theorem dX6_addsSquare_69 : decode cX6_addsSquare 69 = .ok (.goto (-66), 3) := by decide +kernel
theorem dX6_addsSquare_72 : decode cX6_addsSquare 72 = .ok (.return_, 1) := by decide +kernel
theorem dX6_addsBlock_0 : decode cX6_addsBlock 0 = .ok (.aload_n 0, 1) := by decide +kernel
theorem dX6_addsBlock_1 : decode cX6_addsBlock 1 = .ok (.iload_n 2, 1) := by decide +kernel
theorem dX6_addsBlock_2 : decode cX6_addsBlock 2 = .ok (.iload 4, 2) := by decide +kernel
theorem dX6_addsBlock_4 : decode cX6_addsBlock 4 = .ok (.iload 5, 2) := by decide +kernel
theorem dX6_addsBlock_6 : decode cX6_addsBlock 6 = .ok (.iload 6, 2) := by decide +kernel
theorem dX6_addsBlock_8 : decode cX6_addsBlock 8 = .ok (.invokevirtual 59, 3) := by decide +kernel
theorem dX6_addsBlock_11 : decode cX6_addsBlock 11 = .ok (.istore 7, 2) := by decide +kernel
theorem dX6_addsBlock_13 : decode cX6_addsBlock 13 = .ok (.iload 7, 2) := by decide +kernel
theorem dX6_addsBlock_15 : decode cX6_addsBlock 15 = .ok (.iconst 3, 1) := by decide +kernel
theorem dX6_addsBlock_16 : decode cX6_addsBlock 16 = .ok (.if_icmp .ne 67, 3) := by decide +kernel
theorem dX6_addsBlock_19 : decode cX6_addsBlock 19 = .ok (.aload_n 0, 1) := by decide +kernel
theorem dX6_addsBlock_20 : decode cX6_addsBlock 20 = .ok (.iload_n 1, 1) := by decide +kernel
theorem dX6_addsBlock_21 : decode cX6_addsBlock 21 = .ok (.iload 4, 2) := by decide +kernel
theorem dX6_addsBlock_23 : decode cX6_addsBlock 23 = .ok (.iload 5, 2) := by decide +kernel
theorem dX6_addsBlock_25 : decode cX6_addsBlock 25 = .ok (.iload 6, 2) := by decide +kernel
theorem dX6_addsBlock_27 : decode cX6_addsBlock 27 = .ok (.invokevirtual 59, 3) := by decide +kernel
theorem dX6_addsBlock_30 : decode cX6_addsBlock 30 = .ok (.iconst 3, 1) := by decide +kernel
theorem dX6_addsBlock_31 : decode cX6_addsBlock 31 = .ok (.if_icmp .ne 52, 3) := by decide +kernel
theorem dX6_addsBlock_34 : decode cX6_addsBlock 34 = .ok (.iconst 0, 1) := by decide +kernel
theorem dX6_addsBlock_35 : decode cX6_addsBlock 35 = .ok (.istore 8, 2) := by decide +kernel
theorem dX6_addsBlock_37 : decode cX6_addsBlock 37 = .ok (.iload 8, 2) := by decide +kernel
theorem dX6_addsBlock_39 : decode cX6_addsBlock 39 = .ok (.iconst 4, 1) := by decide +kernel
theorem dX6_addsBlock_40 : decode cX6_addsBlock 40 = .ok (.if_icmp .ge 40, 3) := by decide +kernel
theorem dX6_addsBlock_43 : decode cX6_addsBlock 43 = .ok (.aload_n 0, 1) := by decide +kernel
theorem dX6_addsBlock_44 : decode cX6_addsBlock 44 = .ok (.getfield 38, 3) := by decide +kernel
theorem dX6_addsBlock_47 : decode cX6_addsBlock 47 = .ok (.iload 4, 2) := by decide +kernel
theorem dX6_addsBlock_49 : decode cX6_addsBlock 49 = .ok (.iconst 1, 1) := by decide +kernel
theorem dX6_addsBlock_50 : decode cX6_addsBlock 50 = .ok (.iadd, 1) := by decide +kernel
theorem dX6_addsBlock_51 : decode cX6_addsBlock 51 = .ok (.iconst 2, 1) := by decide +kernel
theorem dX6_addsBlock_52 : decode cX6_addsBlock 52 = .ok (.iload 5, 2) := by decide +kernel
theorem dX6_addsBlock_54 : decode cX6_addsBlock 54 = .ok (.imul, 1) := by decide +kernel
theorem dX6_addsBlock_55 : decode cX6_addsBlock 55 = .ok (.iload 8, 2) := by decide +kernel
theorem dX6_addsBlock_57 : decode cX6_addsBlock 57 = .ok (.iconst 2, 1) := by decide +kernel
theorem dX6_addsBlock_58 : decode cX6_addsBlock 58 = .ok (.idiv, 1) := by decide +kernel
theorem dX6_addsBlock_59 : decode cX6_addsBlock 59 = .ok (.iadd, 1) := by decide +kernel
theorem dX6_addsBlock_60 : decode cX6_addsBlock 60 = .ok (.iconst 2, 1) := by decide +kernel
theorem dX6_addsBlock_61 : decode cX6_addsBlock 61 = .ok (.iload 6, 2) := by decide +kernel
theorem dX6_addsBlock_63 : decode cX6_addsBlock 63 = .ok (.imul, 1) := by decide +kernel
theorem dX6_addsBlock_64 : decode cX6_addsBlock 64 = .ok (.iload 8, 2) := by decide +kernel
theorem dX6_addsBlock_66 : decode cX6_addsBlock 66 = .ok (.iconst 2, 1) := by decide +kernel
theorem dX6_addsBlock_67 : decode cX6_addsBlock 67 = .ok (.irem, 1) := by decide +kernel
theorem dX6_addsBlock_68 : decode cX6_addsBlock 68 = .ok (.iadd, 1) := by decide +kernel
theorem dX6_addsBlock_69 : decode cX6_addsBlock 69 = .ok (.invokestatic 49, 3) := by decide +kernel
theorem dX6_addsBlock_72 : decode cX6_addsBlock 72 = .ok (.iconst 1, 1) := by decide +kernel
theorem dX6_addsBlock_73 : decode cX6_addsBlock 73 = .ok (.bastore, 1) := by decide +kernel
theorem dX6_addsBlock_74 : decode cX6_addsBlock 74 = .ok (.iinc 8 1, 3) := by decide +kernel
theorem dX6_addsBlock_77 : decode cX6_addsBlock 77 = .ok (.goto (-40), 3) := by decide +kernel
theorem dX6_addsBlock_80 : decode cX6_addsBlock 80 = .ok (.goto 48, 3) := by decide +kernel
theorem dX6_addsBlock_83 : decode cX6_addsBlock 83 = .ok (.iload 7, 2) := by decide +kernel
theorem dX6_addsBlock_85 : decode cX6_addsBlock 85 = .ok (.ifCond .eq 43, 3) := by decide +kernel
theorem dX6_addsBlock_88 : decode cX6_addsBlock 88 = .ok (.aload_n 0, 1) := by decide +kernel
theorem dX6_addsBlock_89 : decode cX6_addsBlock 89 = .ok (.iload_n 1, 1) := by decide +kernel
theorem dX6_addsBlock_90 : decode cX6_addsBlock 90 = .ok (.iload 4, 2) := by decide +kernel
theorem dX6_addsBlock_92 : decode cX6_addsBlock 92 = .ok (.iload 5, 2) := by decide +kernel
theorem dX6_addsBlock_94 : decode cX6_addsBlock 94 = .ok (.iload 6, 2) := by decide +kernel
theorem dX6_addsBlock_96 : decode cX6_addsBlock 96 = .ok (.iconst 1, 1) := by decide +kernel
theorem dX6_addsBlock_97 : decode cX6_addsBlock 97 = .ok (.invokevirtual 96, 3) := by decide +kernel
theorem dX6_addsBlock_100 : decode cX6_addsBlock 100 = .ok (.aload_n 0, 1) := by decide +kernel
theorem dX6_addsBlock_101 : decode cX6_addsBlock 101 = .ok (.iload_n 1, 1) := by decide +kernel
theorem dX6_addsBlock_102 : decode cX6_addsBlock 102 = .ok (.iload_n 2, 1) := by decide +kernel
theorem dX6_addsBlock_103 : decode cX6_addsBlock 103 = .ok (.iload_n 3, 1) := by decide +kernel
theorem dX6_addsBlock_104 : decode cX6_addsBlock 104 = .ok (.iload 5, 2) := by decide +kernel
theorem dX6_addsBlock_106 : decode cX6_addsBlock 106 = .ok (.iload 4, 2) := by decide +kernel
theorem dX6_addsBlock_108 : decode cX6_addsBlock 108 = .ok (.invokestatic 67, 3) := by decide +kernel
theorem dX6_addsBlock_111 : decode cX6_addsBlock 111 = .ok (.imul, 1) := by decide +kernel
theorem dX6_addsBlock_112 : decode cX6_addsBlock 112 = .ok (.iload 6, 2) := by decide +kernel
theorem dX6_addsBlock_114 : decode cX6_addsBlock 114 = .ok (.iload 4, 2) := by decide +kernel
theorem dX6_addsBlock_116 : decode cX6_addsBlock 116 = .ok (.invokestatic 67, 3) := by decide +kernel
theorem dX6_addsBlock_119 : decode cX6_addsBlock 119 = .ok (.imul, 1) := by decide +kernel
theorem dX6_addsBlock_120 : decode cX6_addsBlock 120 = .ok (.iload 4, 2) := by decide +kernel
theorem dX6_addsBlock_122 : decode cX6_addsBlock 122 = .ok (.invokestatic 67, 3) := by decide +kernel
theorem dX6_addsBlock_125 : decode cX6_addsBlock 125 = .ok (.invokevirtual 137, 3) := by decide +kernel
theorem dX6_addsBlock_128 : decode cX6_addsBlock 128 = .ok (.return_, 1) := by decide +kernel
theorem dX6_add_0 : decode cX6_add 0 = .ok (.aload_n 0, 1) := by decide +kernel
theorem dX6_add_1 : decode cX6_add 1 = .ok (.iconst 0, 1) := by decide +kernel
theorem dX6_add_2 : decode cX6_add 2 = .ok (.putfield 41, 3) := by decide +kernel
theorem dX6_add_5 : decode cX6_add 5 = .ok (.iload_n 1, 1) := by decide +kernel
theorem dX6_add_6 : decode cX6_add 6 = .ok (.invokestatic 104, 3) := by decide +kernel
theorem dX6_add_9 : decode cX6_add 9 = .ok (.ifCond .eq 10, 3) := by decide +kernel
theorem dX6_add_12 : decode cX6_add 12 = .ok (.iload_n 2, 1) := by decide +kernel
theorem dX6_add_13 : decode cX6_add 13 = .ok (.invokestatic 104, 3) := by decide +kernel
theorem dX6_add_16 : decode cX6_add 16 = .ok (.ifCond .ne 5, 3) := by decide +kernel
theorem dX6_add_19 : decode cX6_add 19 = .ok (.iconst (-1), 1) := by decide +kernel
theorem dX6_add_20 : decode cX6_add 20 = .ok (.ireturn, 1) := by decide +kernel
theorem dX6_add_21 : decode cX6_add 21 = .ok (.iload_n 3, 1) := by decide +kernel
theorem dX6_add_22 : decode cX6_add 22 = .ok (.bipush (-99), 2) := by decide +kernel
theorem dX6_add_24 : decode cX6_add 24 = .ok (.bipush 99, 2) := by decide +kernel
theorem dX6_add_26 : decode cX6_add 26 = .ok (.invokestatic 45, 3) := by decide +kernel
theorem dX6_add_29 : decode cX6_add 29 = .ok (.ifCond .eq 12, 3) := by decide +kernel
theorem dX6_add_32 : decode cX6_add 32 = .ok (.iload_n 3, 1) := by decide +kernel
theorem dX6_add_33 : decode cX6_add 33 = .ok (.ifCond .eq 8, 3) := by decide +kernel
theorem dX6_add_36 : decode cX6_add 36 = .ok (.iload_n 1, 1) := by decide +kernel
theorem dX6_add_37 : decode cX6_add 37 = .ok (.iload_n 2, 1) := by decide +kernel
theorem dX6_add_38 : decode cX6_add 38 = .ok (.if_icmp .ne 6, 3) := by decide +kernel
theorem dX6_add_41 : decode cX6_add 41 = .ok (.bipush (-2), 2) := by decide +kernel
theorem dX6_add_43 : decode cX6_add 43 = .ok (.ireturn, 1) := by decide +kernel
theorem dX6_add_44 : decode cX6_add 44 = .ok (.aload_n 0, 1) := by decide +kernel
theorem dX6_add_45 : decode cX6_add 45 = .ok (.invokevirtual 112, 3) := by decide +kernel
theorem dX6_add_48 : decode cX6_add 48 = .ok (.iconst 0, 1) := by decide +kernel
theorem dX6_add_49 : decode cX6_add 49 = .ok (.istore 4, 2) := by decide +kernel
theorem dX6_add_51 : decode cX6_add 51 = .ok (.iload 4, 2) := by decide +kernel
theorem dX6_add_53 : decode cX6_add 53 = .ok (.bipush 85, 2) := by decide +kernel
theorem dX6_add_55 : decode cX6_add 55 = .ok (.if_icmp .ge 26, 3) := by decide +kernel
theorem dX6_add_58 : decode cX6_add 58 = .ok (.aload_n 0, 1) := by decide +kernel
theorem dX6_add_59 : decode cX6_add 59 = .ok (.getfield 38, 3) := by decide +kernel
theorem dX6_add_62 : decode cX6_add 62 = .ok (.iload 4, 2) := by decide +kernel
theorem dX6_add_64 : decode cX6_add 64 = .ok (.iload 4, 2) := by decide +kernel
theorem dX6_add_66 : decode cX6_add 66 = .ok (.ifCond .ne 7, 3) := by decide +kernel
theorem dX6_add_69 : decode cX6_add 69 = .ok (.iconst 1, 1) := by decide +kernel
theorem dX6_add_70 : decode cX6_add 70 = .ok (.goto 4, 3) := by decide +kernel
theorem dX6_add_73 : decode cX6_add 73 = .ok (.iconst 0, 1) := by decide +kernel
theorem dX6_add_74 : decode cX6_add 74 = .ok (.bastore, 1) := by decide +kernel
theorem dX6_add_75 : decode cX6_add 75 = .ok (.iinc 4 1, 3) := by decide +kernel
theorem dX6_add_78 : decode cX6_add 78 = .ok (.goto (-27), 3) := by decide +kernel
theorem dX6_add_81 : decode cX6_add 81 = .ok (.iconst 0, 1) := by decide +kernel
theorem dX6_add_82 : decode cX6_add 82 = .ok (.istore 4, 2) := by decide +kernel
theorem dX6_add_84 : decode cX6_add 84 = .ok (.iload 4, 2) := by decide +kernel
theorem dX6_add_86 : decode cX6_add 86 = .ok (.iconst 4, 1) := by decide +kernel
theorem dX6_add_87 : decode cX6_add 87 = .ok (.if_icmp .ge 76, 3) := by decide +kernel
theorem dX6_add_90 : decode cX6_add 90 = .ok (.iconst 1, 1) := by decide +kernel
theorem dX6_add_91 : decode cX6_add 91 = .ok (.iload 4, 2) := by decide +kernel
theorem dX6_add_93 : decode cX6_add 93 = .ok (.ishl, 1) := by decide +kernel
theorem dX6_add_94 : decode cX6_add 94 = .ok (.istore 5, 2) := by decide +kernel
theorem dX6_add_96 : decode cX6_add 96 = .ok (.iconst 0, 1) := by decide +kernel
theorem dX6_add_97 : decode cX6_add 97 = .ok (.istore 6, 2) := by decide +kernel
theorem dX6_add_99 : decode cX6_add 99 = .ok (.iload 6, 2) := by decide +kernel
theorem dX6_add_101 : decode cX6_add 101 = .ok (.iload 5, 2) := by decide +kernel
theorem dX6_add_103 : decode cX6_add 103 = .ok (.iload 5, 2) := by decide +kernel
theorem dX6_add_105 : decode cX6_add 105 = .ok (.imul, 1) := by decide +kernel
theorem dX6_add_106 : decode cX6_add 106 = .ok (.if_icmp .ge 51, 3) := by decide +kernel
theorem dX6_add_109 : decode cX6_add 109 = .ok (.aload_n 0, 1) := by decide +kernel
theorem dX6_add_110 : decode cX6_add 110 = .ok (.getfield 38, 3) := by decide +kernel
theorem dX6_add_113 : decode cX6_add 113 = .ok (.iload 4, 2) := by decide +kernel
theorem dX6_add_115 : decode cX6_add 115 = .ok (.iload 6, 2) := by decide +kernel
theorem dX6_add_117 : decode cX6_add 117 = .ok (.iload 5, 2) := by decide +kernel
theorem dX6_add_119 : decode cX6_add 119 = .ok (.idiv, 1) := by decide +kernel
theorem dX6_add_120 : decode cX6_add 120 = .ok (.iload 6, 2) := by decide +kernel
theorem dX6_add_122 : decode cX6_add 122 = .ok (.iload 5, 2) := by decide +kernel
theorem dX6_add_124 : decode cX6_add 124 = .ok (.irem, 1) := by decide +kernel
theorem dX6_add_125 : decode cX6_add 125 = .ok (.invokestatic 49, 3) := by decide +kernel
theorem dX6_add_128 : decode cX6_add 128 = .ok (.baload, 1) := by decide +kernel
theorem dX6_add_129 : decode cX6_add 129 = .ok (.ifCond .eq 22, 3) := by decide +kernel
theorem dX6_add_132 : decode cX6_add 132 = .ok (.aload_n 0, 1) := by decide +kernel
theorem dX6_add_133 : decode cX6_add 133 = .ok (.iload_n 1, 1) := by decide +kernel
theorem dX6_add_134 : decode cX6_add 134 = .ok (.iload_n 2, 1) := by decide +kernel
theorem dX6_add_135 : decode cX6_add 135 = .ok (.iload_n 3, 1) := by decide +kernel
theorem dX6_add_136 : decode cX6_add 136 = .ok (.iload 4, 2) := by decide +kernel
theorem dX6_add_138 : decode cX6_add 138 = .ok (.iload 6, 2) := by decide +kernel
theorem dX6_add_140 : decode cX6_add 140 = .ok (.iload 5, 2) := by decide +kernel
theorem dX6_add_142 : decode cX6_add 142 = .ok (.idiv, 1) := by decide +kernel
theorem dX6_add_143 : decode cX6_add 143 = .ok (.iload 6, 2) := by decide +kernel
theorem dX6_add_145 : decode cX6_add 145 = .ok (.iload 5, 2) := by decide +kernel
theorem dX6_add_147 : decode cX6_add 147 = .ok (.irem, 1) := by decide +kernel
theorem dX6_add_148 : decode cX6_add 148 = .ok (.invokevirtual 141, 3) := by decide +kernel
theorem dX6_add_151 : decode cX6_add 151 = .ok (.iinc 6 1, 3) := by decide +kernel
theorem dX6_add_154 : decode cX6_add 154 = .ok (.goto (-55), 3) := by decide +kernel
theorem dX6_add_157 : decode cX6_add 157 = .ok (.iinc 4 1, 3) := by decide +kernel
theorem dX6_add_160 : decode cX6_add 160 = .ok (.goto (-76), 3) := by decide +kernel
theorem dX6_add_163 : decode cX6_add 163 = .ok (.aload_n 0, 1) := by decide +kernel
theorem dX6_add_164 : decode cX6_add 164 = .ok (.iload_n 1, 1) := by decide +kernel
theorem dX6_add_165 : decode cX6_add 165 = .ok (.invokevirtual 78, 3) := by decide +kernel
theorem dX6_add_168 : decode cX6_add 168 = .ok (.ireturn, 1) := by decide +kernel
theorem dX6_swaps_0 : decode cX6_swaps 0 = .ok (.aload_n 0, 1) := by decide +kernel
theorem dX6_swaps_1 : decode cX6_swaps 1 = .ok (.getfield 7, 3) := by decide +kernel
theorem dX6_swaps_4 : decode cX6_swaps 4 = .ok (.sipush 341, 3) := by decide +kernel
theorem dX6_swaps_7 : decode cX6_swaps 7 = .ok (.iload_n 1, 1) := by decide +kernel
theorem dX6_swaps_8 : decode cX6_swaps 8 = .ok (.imul, 1) := by decide +kernel
theorem dX6_swaps_9 : decode cX6_swaps 9 = .ok (.iload_n 2, 1) := by decide +kernel
theorem dX6_swaps_10 : decode cX6_swaps 10 = .ok (.iadd, 1) := by decide +kernel
theorem dX6_swaps_11 : decode cX6_swaps 11 = .ok (.iaload, 1) := by decide +kernel
theorem dX6_swaps_12 : decode cX6_swaps 12 = .ok (.istore 4, 2) := by decide +kernel
theorem dX6_swaps_14 : decode cX6_swaps 14 = .ok (.aload_n 0, 1) := by decide +kernel
theorem dX6_swaps_15 : decode cX6_swaps 15 = .ok (.getfield 7, 3) := by decide +kernel
theorem dX6_swaps_18 : decode cX6_swaps 18 = .ok (.sipush 341, 3) := by decide +kernel
theorem dX6_swaps_21 : decode cX6_swaps 21 = .ok (.iload_n 1, 1) := by decide +kernel
theorem dX6_swaps_22 : decode cX6_swaps 22 = .ok (.imul, 1) := by decide +kernel
theorem dX6_swaps_23 : decode cX6_swaps 23 = .ok (.iload_n 2, 1) := by decide +kernel
theorem dX6_swaps_24 : decode cX6_swaps 24 = .ok (.iadd, 1) := by decide +kernel
theorem dX6_swaps_25 : decode cX6_swaps 25 = .ok (.aload_n 0, 1) := by decide +kernel
theorem dX6_swaps_26 : decode cX6_swaps 26 = .ok (.getfield 7, 3) := by decide +kernel
theorem dX6_swaps_29 : decode cX6_swaps 29 = .ok (.sipush 341, 3) := by decide +kernel
theorem dX6_swaps_32 : decode cX6_swaps 32 = .ok (.iload_n 1, 1) := by decide +kernel
theorem dX6_swaps_33 : decode cX6_swaps 33 = .ok (.imul, 1) := by decide +kernel
theorem dX6_swaps_34 : decode cX6_swaps 34 = .ok (.iload_n 3, 1) := by decide +kernel
theorem dX6_swaps_35 : decode cX6_swaps 35 = .ok (.iadd, 1) := by decide +kernel
theorem dX6_swaps_36 : decode cX6_swaps 36 = .ok (.iaload, 1) := by decide +kernel
theorem dX6_swaps_37 : decode cX6_swaps 37 = .ok (.iastore, 1) := by decide +kernel
theorem dX6_swaps_38 : decode cX6_swaps 38 = .ok (.aload_n 0, 1) := by decide +kernel
theorem dX6_swaps_39 : decode cX6_swaps 39 = .ok (.getfield 7, 3) := by decide +kernel
theorem dX6_swaps_42 : decode cX6_swaps 42 = .ok (.sipush 341, 3) := by decide +kernel
theorem dX6_swaps_45 : decode cX6_swaps 45 = .ok (.iload_n 1, 1) := by decide +kernel
theorem dX6_swaps_46 : decode cX6_swaps 46 = .ok (.imul, 1) := by decide +kernel
theorem dX6_swaps_47 : decode cX6_swaps 47 = .ok (.iload_n 3, 1) := by decide +kernel
theorem dX6_swaps_48 : decode cX6_swaps 48 = .ok (.iadd, 1) := by decide +kernel
theorem dX6_swaps_49 : decode cX6_swaps 49 = .ok (.iload 4, 2) := by decide +kernel
theorem dX6_swaps_51 : decode cX6_swaps 51 = .ok (.iastore, 1) := by decide +kernel
theorem dX6_swaps_52 : decode cX6_swaps 52 = .ok (.return_, 1) := by decide +kernel
theorem dX6_turn_0 : decode cX6_turn 0 = .ok (.aload_n 0, 1) := by decide +kernel
theorem dX6_turn_1 : decode cX6_turn 1 = .ok (.iconst 0, 1) := by decide +kernel
theorem dX6_turn_2 : decode cX6_turn 2 = .ok (.putfield 41, 3) := by decide +kernel
theorem dX6_turn_5 : decode cX6_turn 5 = .ok (.iload_n 1, 1) := by decide +kernel
theorem dX6_turn_6 : decode cX6_turn 6 = .ok (.invokestatic 104, 3) := by decide +kernel
theorem dX6_turn_9 : decode cX6_turn 9 = .ok (.ifCond .ne 5, 3) := by decide +kernel
theorem dX6_turn_12 : decode cX6_turn 12 = .ok (.iconst (-1), 1) := by decide +kernel
theorem dX6_turn_13 : decode cX6_turn 13 = .ok (.ireturn, 1) := by decide +kernel
theorem dX6_turn_14 : decode cX6_turn 14 = .ok (.aload_n 0, 1) := by decide +kernel
theorem dX6_turn_15 : decode cX6_turn 15 = .ok (.invokevirtual 112, 3) := by decide +kernel
theorem dX6_turn_18 : decode cX6_turn 18 = .ok (.iconst 0, 1) := by decide +kernel
theorem dX6_turn_19 : decode cX6_turn 19 = .ok (.istore_n 2, 1) := by decide +kernel
theorem dX6_turn_20 : decode cX6_turn 20 = .ok (.iload_n 2, 1) := by decide +kernel
theorem dX6_turn_21 : decode cX6_turn 21 = .ok (.iconst 4, 1) := by decide +kernel
theorem dX6_turn_22 : decode cX6_turn 22 = .ok (.if_icmp .ge 70, 3) := by decide +kernel
theorem dX6_turn_25 : decode cX6_turn 25 = .ok (.iconst 1, 1) := by decide +kernel
theorem dX6_turn_26 : decode cX6_turn 26 = .ok (.iload_n 2, 1) := by decide +kernel
theorem dX6_turn_27 : decode cX6_turn 27 = .ok (.ishl, 1) := by decide +kernel
theorem dX6_turn_28 : decode cX6_turn 28 = .ok (.istore_n 3, 1) := by decide +kernel
theorem dX6_turn_29 : decode cX6_turn 29 = .ok (.iconst 0, 1) := by decide +kernel
theorem dX6_turn_30 : decode cX6_turn 30 = .ok (.istore 4, 2) := by decide +kernel
theorem dX6_turn_32 : decode cX6_turn 32 = .ok (.iload 4, 2) := by decide +kernel
theorem dX6_turn_34 : decode cX6_turn 34 = .ok (.iload_n 3, 1) := by decide +kernel
theorem dX6_turn_35 : decode cX6_turn 35 = .ok (.iload_n 3, 1) := by decide +kernel
theorem dX6_turn_36 : decode cX6_turn 36 = .ok (.imul, 1) := by decide +kernel
theorem dX6_turn_37 : decode cX6_turn 37 = .ok (.if_icmp .ge 49, 3) := by decide +kernel
theorem dX6_turn_40 : decode cX6_turn 40 = .ok (.iload 4, 2) := by decide +kernel
theorem dX6_turn_42 : decode cX6_turn 42 = .ok (.iload_n 3, 1) := by decide +kernel
theorem dX6_turn_43 : decode cX6_turn 43 = .ok (.idiv, 1) := by decide +kernel
theorem dX6_turn_44 : decode cX6_turn 44 = .ok (.iload 4, 2) := by decide +kernel
theorem dX6_turn_46 : decode cX6_turn 46 = .ok (.iload_n 3, 1) := by decide +kernel
theorem dX6_turn_47 : decode cX6_turn 47 = .ok (.irem, 1) := by decide +kernel
theorem dX6_turn_48 : decode cX6_turn 48 = .ok (.if_icmp .ge 32, 3) := by decide +kernel
theorem dX6_turn_51 : decode cX6_turn 51 = .ok (.aload_n 0, 1) := by decide +kernel
theorem dX6_turn_52 : decode cX6_turn 52 = .ok (.iload_n 1, 1) := by decide +kernel
theorem dX6_turn_53 : decode cX6_turn 53 = .ok (.iload_n 2, 1) := by decide +kernel
theorem dX6_turn_54 : decode cX6_turn 54 = .ok (.iload 4, 2) := by decide +kernel
theorem dX6_turn_56 : decode cX6_turn 56 = .ok (.iload_n 3, 1) := by decide +kernel
theorem dX6_turn_57 : decode cX6_turn 57 = .ok (.idiv, 1) := by decide +kernel
theorem dX6_turn_58 : decode cX6_turn 58 = .ok (.iload 4, 2) := by decide +kernel
theorem dX6_turn_60 : decode cX6_turn 60 = .ok (.iload_n 3, 1) := by decide +kernel
theorem dX6_turn_61 : decode cX6_turn 61 = .ok (.irem, 1) := by decide +kernel
theorem dX6_turn_62 : decode cX6_turn 62 = .ok (.invokestatic 49, 3) := by decide +kernel
theorem dX6_turn_65 : decode cX6_turn 65 = .ok (.iload_n 2, 1) := by decide +kernel
theorem dX6_turn_66 : decode cX6_turn 66 = .ok (.iload 4, 2) := by decide +kernel
theorem dX6_turn_68 : decode cX6_turn 68 = .ok (.iload_n 3, 1) := by decide +kernel
theorem dX6_turn_69 : decode cX6_turn 69 = .ok (.irem, 1) := by decide +kernel
theorem dX6_turn_70 : decode cX6_turn 70 = .ok (.iload 4, 2) := by decide +kernel
theorem dX6_turn_72 : decode cX6_turn 72 = .ok (.iload_n 3, 1) := by decide +kernel
theorem dX6_turn_73 : decode cX6_turn 73 = .ok (.idiv, 1) := by decide +kernel
theorem dX6_turn_74 : decode cX6_turn 74 = .ok (.invokestatic 49, 3) := by decide +kernel
theorem dX6_turn_77 : decode cX6_turn 77 = .ok (.invokevirtual 144, 3) := by decide +kernel
theorem dX6_turn_80 : decode cX6_turn 80 = .ok (.iinc 4 1, 3) := by decide +kernel
theorem dX6_turn_83 : decode cX6_turn 83 = .ok (.goto (-51), 3) := by decide +kernel
theorem dX6_turn_86 : decode cX6_turn 86 = .ok (.iinc 2 1, 3) := by decide +kernel
theorem dX6_turn_89 : decode cX6_turn 89 = .ok (.goto (-69), 3) := by decide +kernel
theorem dX6_turn_92 : decode cX6_turn 92 = .ok (.iconst 0, 1) := by decide +kernel
theorem dX6_turn_93 : decode cX6_turn 93 = .ok (.istore_n 2, 1) := by decide +kernel
theorem dX6_turn_94 : decode cX6_turn 94 = .ok (.iload_n 2, 1) := by decide +kernel
theorem dX6_turn_95 : decode cX6_turn 95 = .ok (.sipush 256, 3) := by decide +kernel
theorem dX6_turn_98 : decode cX6_turn 98 = .ok (.if_icmp .ge 44, 3) := by decide +kernel
theorem dX6_turn_101 : decode cX6_turn 101 = .ok (.iload_n 2, 1) := by decide +kernel
theorem dX6_turn_102 : decode cX6_turn 102 = .ok (.bipush 16, 2) := by decide +kernel
theorem dX6_turn_104 : decode cX6_turn 104 = .ok (.idiv, 1) := by decide +kernel
theorem dX6_turn_105 : decode cX6_turn 105 = .ok (.iload_n 2, 1) := by decide +kernel
theorem dX6_turn_106 : decode cX6_turn 106 = .ok (.bipush 16, 2) := by decide +kernel
theorem dX6_turn_108 : decode cX6_turn 108 = .ok (.irem, 1) := by decide +kernel
theorem dX6_turn_109 : decode cX6_turn 109 = .ok (.if_icmp .ge 27, 3) := by decide +kernel
theorem dX6_turn_112 : decode cX6_turn 112 = .ok (.aload_n 0, 1) := by decide +kernel
theorem dX6_turn_113 : decode cX6_turn 113 = .ok (.iload_n 1, 1) := by decide +kernel
theorem dX6_turn_114 : decode cX6_turn 114 = .ok (.bipush 85, 2) := by decide +kernel
theorem dX6_turn_116 : decode cX6_turn 116 = .ok (.iload_n 2, 1) := by decide +kernel
theorem dX6_turn_117 : decode cX6_turn 117 = .ok (.iadd, 1) := by decide +kernel
theorem dX6_turn_118 : decode cX6_turn 118 = .ok (.bipush 85, 2) := by decide +kernel
theorem dX6_turn_120 : decode cX6_turn 120 = .ok (.bipush 16, 2) := by decide +kernel
theorem dX6_turn_122 : decode cX6_turn 122 = .ok (.iload_n 2, 1) := by decide +kernel
theorem dX6_turn_123 : decode cX6_turn 123 = .ok (.bipush 16, 2) := by decide +kernel
theorem dX6_turn_125 : decode cX6_turn 125 = .ok (.irem, 1) := by decide +kernel
theorem dX6_turn_126 : decode cX6_turn 126 = .ok (.imul, 1) := by decide +kernel
theorem dX6_turn_127 : decode cX6_turn 127 = .ok (.iadd, 1) := by decide +kernel
theorem dX6_turn_128 : decode cX6_turn 128 = .ok (.iload_n 2, 1) := by decide +kernel
theorem dX6_turn_129 : decode cX6_turn 129 = .ok (.bipush 16, 2) := by decide +kernel
theorem dX6_turn_131 : decode cX6_turn 131 = .ok (.idiv, 1) := by decide +kernel
theorem dX6_turn_132 : decode cX6_turn 132 = .ok (.iadd, 1) := by decide +kernel
theorem dX6_turn_133 : decode cX6_turn 133 = .ok (.invokevirtual 144, 3) := by decide +kernel
theorem dX6_turn_136 : decode cX6_turn 136 = .ok (.iinc 2 1, 3) := by decide +kernel
theorem dX6_turn_139 : decode cX6_turn 139 = .ok (.goto (-45), 3) := by decide +kernel
theorem dX6_turn_142 : decode cX6_turn 142 = .ok (.aload_n 0, 1) := by decide +kernel
theorem dX6_turn_143 : decode cX6_turn 143 = .ok (.iload_n 1, 1) := by decide +kernel
theorem dX6_turn_144 : decode cX6_turn 144 = .ok (.invokevirtual 148, 3) := by decide +kernel
theorem dX6_turn_147 : decode cX6_turn 147 = .ok (.ldc 151, 2) := by decide +kernel
theorem dX6_turn_149 : decode cX6_turn 149 = .ok (.iadd, 1) := by decide +kernel
theorem dX6_turn_150 : decode cX6_turn 150 = .ok (.ireturn, 1) := by decide +kernel
theorem dX6_copy_0 : decode cX6_copy 0 = .ok (.aload_n 0, 1) := by decide +kernel
theorem dX6_copy_1 : decode cX6_copy 1 = .ok (.iconst 0, 1) := by decide +kernel
theorem dX6_copy_2 : decode cX6_copy 2 = .ok (.putfield 41, 3) := by decide +kernel
theorem dX6_copy_5 : decode cX6_copy 5 = .ok (.iload_n 1, 1) := by decide +kernel
theorem dX6_copy_6 : decode cX6_copy 6 = .ok (.invokestatic 104, 3) := by decide +kernel
theorem dX6_copy_9 : decode cX6_copy 9 = .ok (.ifCond .eq 10, 3) := by decide +kernel
theorem dX6_copy_12 : decode cX6_copy 12 = .ok (.iload_n 2, 1) := by decide +kernel
theorem dX6_copy_13 : decode cX6_copy 13 = .ok (.invokestatic 104, 3) := by decide +kernel
theorem dX6_copy_16 : decode cX6_copy 16 = .ok (.ifCond .ne 5, 3) := by decide +kernel
theorem dX6_copy_19 : decode cX6_copy 19 = .ok (.iconst (-1), 1) := by decide +kernel
theorem dX6_copy_20 : decode cX6_copy 20 = .ok (.ireturn, 1) := by decide +kernel
theorem dX6_copy_21 : decode cX6_copy 21 = .ok (.iload_n 1, 1) := by decide +kernel
theorem dX6_copy_22 : decode cX6_copy 22 = .ok (.iload_n 2, 1) := by decide +kernel
theorem dX6_copy_23 : decode cX6_copy 23 = .ok (.if_icmp .ne 6, 3) := by decide +kernel
theorem dX6_copy_26 : decode cX6_copy 26 = .ok (.bipush (-2), 2) := by decide +kernel
theorem dX6_copy_28 : decode cX6_copy 28 = .ok (.ireturn, 1) := by decide +kernel
theorem dX6_copy_29 : decode cX6_copy 29 = .ok (.aload_n 0, 1) := by decide +kernel
theorem dX6_copy_30 : decode cX6_copy 30 = .ok (.invokevirtual 112, 3) := by decide +kernel
theorem dX6_copy_33 : decode cX6_copy 33 = .ok (.iconst 0, 1) := by decide +kernel
theorem dX6_copy_34 : decode cX6_copy 34 = .ok (.istore_n 3, 1) := by decide +kernel
theorem dX6_copy_35 : decode cX6_copy 35 = .ok (.iload_n 3, 1) := by decide +kernel
theorem dX6_copy_36 : decode cX6_copy 36 = .ok (.sipush 341, 3) := by decide +kernel
theorem dX6_copy_39 : decode cX6_copy 39 = .ok (.if_icmp .ge 33, 3) := by decide +kernel
theorem dX6_copy_42 : decode cX6_copy 42 = .ok (.aload_n 0, 1) := by decide +kernel
theorem dX6_copy_43 : decode cX6_copy 43 = .ok (.getfield 7, 3) := by decide +kernel
theorem dX6_copy_46 : decode cX6_copy 46 = .ok (.sipush 341, 3) := by decide +kernel
theorem dX6_copy_49 : decode cX6_copy 49 = .ok (.iload_n 1, 1) := by decide +kernel
theorem dX6_copy_50 : decode cX6_copy 50 = .ok (.imul, 1) := by decide +kernel
theorem dX6_copy_51 : decode cX6_copy 51 = .ok (.iload_n 3, 1) := by decide +kernel
theorem dX6_copy_52 : decode cX6_copy 52 = .ok (.iadd, 1) := by decide +kernel
theorem dX6_copy_53 : decode cX6_copy 53 = .ok (.aload_n 0, 1) := by decide +kernel
theorem dX6_copy_54 : decode cX6_copy 54 = .ok (.getfield 7, 3) := by decide +kernel
theorem dX6_copy_57 : decode cX6_copy 57 = .ok (.sipush 341, 3) := by decide +kernel
theorem dX6_copy_60 : decode cX6_copy 60 = .ok (.iload_n 2, 1) := by decide +kernel
theorem dX6_copy_61 : decode cX6_copy 61 = .ok (.imul, 1) := by decide +kernel
theorem dX6_copy_62 : decode cX6_copy 62 = .ok (.iload_n 3, 1) := by decide +kernel
theorem dX6_copy_63 : decode cX6_copy 63 = .ok (.iadd, 1) := by decide +kernel
theorem dX6_copy_64 : decode cX6_copy 64 = .ok (.iaload, 1) := by decide +kernel
theorem dX6_copy_65 : decode cX6_copy 65 = .ok (.iastore, 1) := by decide +kernel
theorem dX6_copy_66 : decode cX6_copy 66 = .ok (.iinc 3 1, 3) := by decide +kernel
theorem dX6_copy_69 : decode cX6_copy 69 = .ok (.goto (-34), 3) := by decide +kernel
theorem dX6_copy_72 : decode cX6_copy 72 = .ok (.aload_n 0, 1) := by decide +kernel
theorem dX6_copy_73 : decode cX6_copy 73 = .ok (.iload_n 1, 1) := by decide +kernel
theorem dX6_copy_74 : decode cX6_copy 74 = .ok (.invokevirtual 78, 3) := by decide +kernel
theorem dX6_copy_77 : decode cX6_copy 77 = .ok (.ireturn, 1) := by decide +kernel
theorem dX6_clear_0 : decode cX6_clear 0 = .ok (.aload_n 0, 1) := by decide +kernel
theorem dX6_clear_1 : decode cX6_clear 1 = .ok (.iconst 0, 1) := by decide +kernel
theorem dX6_clear_2 : decode cX6_clear 2 = .ok (.putfield 41, 3) := by decide +kernel
theorem dX6_clear_5 : decode cX6_clear 5 = .ok (.iload_n 1, 1) := by decide +kernel
theorem dX6_clear_6 : decode cX6_clear 6 = .ok (.invokestatic 104, 3) := by decide +kernel
theorem dX6_clear_9 : decode cX6_clear 9 = .ok (.ifCond .eq 11, 3) := by decide +kernel
theorem dX6_clear_12 : decode cX6_clear 12 = .ok (.iload_n 2, 1) := by decide +kernel
theorem dX6_clear_13 : decode cX6_clear 13 = .ok (.iload_n 3, 1) := by decide +kernel
theorem dX6_clear_14 : decode cX6_clear 14 = .ok (.invokestatic 118, 3) := by decide +kernel
theorem dX6_clear_17 : decode cX6_clear 17 = .ok (.ifCond .ne 5, 3) := by decide +kernel
theorem dX6_clear_20 : decode cX6_clear 20 = .ok (.iconst (-1), 1) := by decide +kernel
theorem dX6_clear_21 : decode cX6_clear 21 = .ok (.ireturn, 1) := by decide +kernel
theorem dX6_clear_22 : decode cX6_clear 22 = .ok (.aload_n 0, 1) := by decide +kernel
theorem dX6_clear_23 : decode cX6_clear 23 = .ok (.invokevirtual 112, 3) := by decide +kernel
theorem dX6_clear_26 : decode cX6_clear 26 = .ok (.aload_n 0, 1) := by decide +kernel
theorem dX6_clear_27 : decode cX6_clear 27 = .ok (.iload_n 1, 1) := by decide +kernel
theorem dX6_clear_28 : decode cX6_clear 28 = .ok (.iload_n 2, 1) := by decide +kernel
theorem dX6_clear_29 : decode cX6_clear 29 = .ok (.iload_n 3, 1) := by decide +kernel
theorem dX6_clear_30 : decode cX6_clear 30 = .ok (.invokevirtual 152, 3) := by decide +kernel
theorem dX6_clear_33 : decode cX6_clear 33 = .ok (.istore 4, 2) := by decide +kernel
theorem dX6_clear_35 : decode cX6_clear 35 = .ok (.iload 4, 2) := by decide +kernel
theorem dX6_clear_37 : decode cX6_clear 37 = .ok (.invokestatic 67, 3) := by decide +kernel
theorem dX6_clear_40 : decode cX6_clear 40 = .ok (.istore 5, 2) := by decide +kernel
theorem dX6_clear_42 : decode cX6_clear 42 = .ok (.aload_n 0, 1) := by decide +kernel
theorem dX6_clear_43 : decode cX6_clear 43 = .ok (.iload_n 1, 1) := by decide +kernel
theorem dX6_clear_44 : decode cX6_clear 44 = .ok (.iload 4, 2) := by decide +kernel
theorem dX6_clear_46 : decode cX6_clear 46 = .ok (.iload_n 2, 1) := by decide +kernel
theorem dX6_clear_47 : decode cX6_clear 47 = .ok (.iload 5, 2) := by decide +kernel
theorem dX6_clear_49 : decode cX6_clear 49 = .ok (.idiv, 1) := by decide +kernel
theorem dX6_clear_50 : decode cX6_clear 50 = .ok (.iload_n 3, 1) := by decide +kernel
theorem dX6_clear_51 : decode cX6_clear 51 = .ok (.iload 5, 2) := by decide +kernel
theorem dX6_clear_53 : decode cX6_clear 53 = .ok (.idiv, 1) := by decide +kernel
theorem dX6_clear_54 : decode cX6_clear 54 = .ok (.iconst 0, 1) := by decide +kernel
theorem dX6_clear_55 : decode cX6_clear 55 = .ok (.invokevirtual 96, 3) := by decide +kernel
theorem dX6_clear_58 : decode cX6_clear 58 = .ok (.iconst 0, 1) := by decide +kernel
theorem dX6_clear_59 : decode cX6_clear 59 = .ok (.istore 6, 2) := by decide +kernel
theorem dX6_clear_61 : decode cX6_clear 61 = .ok (.iload 6, 2) := by decide +kernel
theorem dX6_clear_63 : decode cX6_clear 63 = .ok (.iload 5, 2) := by decide +kernel
theorem dX6_clear_65 : decode cX6_clear 65 = .ok (.iload 5, 2) := by decide +kernel
theorem dX6_clear_67 : decode cX6_clear 67 = .ok (.imul, 1) := by decide +kernel
theorem dX6_clear_68 : decode cX6_clear 68 = .ok (.if_icmp .ge 41, 3) := by decide +kernel
theorem dX6_clear_71 : decode cX6_clear 71 = .ok (.aload_n 0, 1) := by decide +kernel
theorem dX6_clear_72 : decode cX6_clear 72 = .ok (.iload_n 1, 1) := by decide +kernel
theorem dX6_clear_73 : decode cX6_clear 73 = .ok (.iload_n 2, 1) := by decide +kernel
theorem dX6_clear_74 : decode cX6_clear 74 = .ok (.iload 5, 2) := by decide +kernel
theorem dX6_clear_76 : decode cX6_clear 76 = .ok (.idiv, 1) := by decide +kernel
theorem dX6_clear_77 : decode cX6_clear 77 = .ok (.iload 5, 2) := by decide +kernel
theorem dX6_clear_79 : decode cX6_clear 79 = .ok (.imul, 1) := by decide +kernel
theorem dX6_clear_80 : decode cX6_clear 80 = .ok (.iload 6, 2) := by decide +kernel
theorem dX6_clear_82 : decode cX6_clear 82 = .ok (.iload 5, 2) := by decide +kernel
theorem dX6_clear_84 : decode cX6_clear 84 = .ok (.idiv, 1) := by decide +kernel
theorem dX6_clear_85 : decode cX6_clear 85 = .ok (.iadd, 1) := by decide +kernel
theorem dX6_clear_86 : decode cX6_clear 86 = .ok (.iload_n 3, 1) := by decide +kernel
theorem dX6_clear_87 : decode cX6_clear 87 = .ok (.iload 5, 2) := by decide +kernel
theorem dX6_clear_89 : decode cX6_clear 89 = .ok (.idiv, 1) := by decide +kernel
theorem dX6_clear_90 : decode cX6_clear 90 = .ok (.iload 5, 2) := by decide +kernel
theorem dX6_clear_92 : decode cX6_clear 92 = .ok (.imul, 1) := by decide +kernel
theorem dX6_clear_93 : decode cX6_clear 93 = .ok (.iload 6, 2) := by decide +kernel
theorem dX6_clear_95 : decode cX6_clear 95 = .ok (.iload 5, 2) := by decide +kernel
theorem dX6_clear_97 : decode cX6_clear 97 = .ok (.irem, 1) := by decide +kernel
theorem dX6_clear_98 : decode cX6_clear 98 = .ok (.iadd, 1) := by decide +kernel
theorem dX6_clear_99 : decode cX6_clear 99 = .ok (.iconst 0, 1) := by decide +kernel
theorem dX6_clear_100 : decode cX6_clear 100 = .ok (.invokevirtual 127, 3) := by decide +kernel
theorem dX6_clear_103 : decode cX6_clear 103 = .ok (.iinc 6 1, 3) := by decide +kernel
theorem dX6_clear_106 : decode cX6_clear 106 = .ok (.goto (-45), 3) := by decide +kernel
theorem dX6_clear_109 : decode cX6_clear 109 = .ok (.iload 5, 2) := by decide +kernel
theorem dX6_clear_111 : decode cX6_clear 111 = .ok (.ireturn, 1) := by decide +kernel
theorem dX6_at_0 : decode cX6_at 0 = .ok (.aload_n 0, 1) := by decide +kernel
theorem dX6_at_1 : decode cX6_at 1 = .ok (.iconst 0, 1) := by decide +kernel
theorem dX6_at_2 : decode cX6_at 2 = .ok (.putfield 41, 3) := by decide +kernel
theorem dX6_at_5 : decode cX6_at 5 = .ok (.iload_n 1, 1) := by decide +kernel
theorem dX6_at_6 : decode cX6_at 6 = .ok (.invokestatic 104, 3) := by decide +kernel
theorem dX6_at_9 : decode cX6_at 9 = .ok (.ifCond .eq 24, 3) := by decide +kernel
theorem dX6_at_12 : decode cX6_at 12 = .ok (.iload_n 2, 1) := by decide +kernel
theorem dX6_at_13 : decode cX6_at 13 = .ok (.iload_n 3, 1) := by decide +kernel
theorem dX6_at_14 : decode cX6_at 14 = .ok (.invokestatic 118, 3) := by decide +kernel
theorem dX6_at_17 : decode cX6_at 17 = .ok (.ifCond .eq 16, 3) := by decide +kernel
theorem dX6_at_20 : decode cX6_at 20 = .ok (.aload_n 0, 1) := by decide +kernel
theorem dX6_at_21 : decode cX6_at 21 = .ok (.iload_n 1, 1) := by decide +kernel
theorem dX6_at_22 : decode cX6_at 22 = .ok (.iload_n 2, 1) := by decide +kernel
theorem dX6_at_23 : decode cX6_at 23 = .ok (.iload_n 3, 1) := by decide +kernel
theorem dX6_at_24 : decode cX6_at 24 = .ok (.invokevirtual 81, 3) := by decide +kernel
theorem dX6_at_27 : decode cX6_at 27 = .ok (.ldc 123, 2) := by decide +kernel
theorem dX6_at_29 : decode cX6_at 29 = .ok (.iadd, 1) := by decide +kernel
theorem dX6_at_30 : decode cX6_at 30 = .ok (.goto 4, 3) := by decide +kernel
theorem dX6_at_33 : decode cX6_at 33 = .ok (.iconst (-1), 1) := by decide +kernel
theorem dX6_at_34 : decode cX6_at 34 = .ok (.ireturn, 1) := by decide +kernel
theorem dX6_block_0 : decode cX6_block 0 = .ok (.aload_n 0, 1) := by decide +kernel
theorem dX6_block_1 : decode cX6_block 1 = .ok (.iconst 0, 1) := by decide +kernel
theorem dX6_block_2 : decode cX6_block 2 = .ok (.putfield 41, 3) := by decide +kernel
theorem dX6_block_5 : decode cX6_block 5 = .ok (.iload_n 1, 1) := by decide +kernel
theorem dX6_block_6 : decode cX6_block 6 = .ok (.invokestatic 104, 3) := by decide +kernel
theorem dX6_block_9 : decode cX6_block 9 = .ok (.ifCond .eq 11, 3) := by decide +kernel
theorem dX6_block_12 : decode cX6_block 12 = .ok (.iload_n 2, 1) := by decide +kernel
theorem dX6_block_13 : decode cX6_block 13 = .ok (.iload_n 3, 1) := by decide +kernel
theorem dX6_block_14 : decode cX6_block 14 = .ok (.invokestatic 118, 3) := by decide +kernel
theorem dX6_block_17 : decode cX6_block 17 = .ok (.ifCond .ne 5, 3) := by decide +kernel
theorem dX6_block_20 : decode cX6_block 20 = .ok (.iconst (-1), 1) := by decide +kernel
theorem dX6_block_21 : decode cX6_block 21 = .ok (.ireturn, 1) := by decide +kernel
theorem dX6_block_22 : decode cX6_block 22 = .ok (.aload_n 0, 1) := by decide +kernel
theorem dX6_block_23 : decode cX6_block 23 = .ok (.iload_n 1, 1) := by decide +kernel
theorem dX6_block_24 : decode cX6_block 24 = .ok (.iload_n 2, 1) := by decide +kernel
theorem dX6_block_25 : decode cX6_block 25 = .ok (.iload_n 3, 1) := by decide +kernel
theorem dX6_block_26 : decode cX6_block 26 = .ok (.invokevirtual 152, 3) := by decide +kernel
theorem dX6_block_29 : decode cX6_block 29 = .ok (.istore 5, 2) := by decide +kernel
theorem dX6_block_31 : decode cX6_block 31 = .ok (.iload 5, 2) := by decide +kernel
theorem dX6_block_33 : decode cX6_block 33 = .ok (.invokestatic 67, 3) := by decide +kernel
theorem dX6_block_36 : decode cX6_block 36 = .ok (.istore 6, 2) := by decide +kernel
theorem dX6_block_38 : decode cX6_block 38 = .ok (.aload_n 0, 1) := by decide +kernel
theorem dX6_block_39 : decode cX6_block 39 = .ok (.iload_n 1, 1) := by decide +kernel
theorem dX6_block_40 : decode cX6_block 40 = .ok (.iload 5, 2) := by decide +kernel
theorem dX6_block_42 : decode cX6_block 42 = .ok (.iload_n 2, 1) := by decide +kernel
theorem dX6_block_43 : decode cX6_block 43 = .ok (.iload 6, 2) := by decide +kernel
theorem dX6_block_45 : decode cX6_block 45 = .ok (.idiv, 1) := by decide +kernel
theorem dX6_block_46 : decode cX6_block 46 = .ok (.iload_n 3, 1) := by decide +kernel
theorem dX6_block_47 : decode cX6_block 47 = .ok (.iload 6, 2) := by decide +kernel
theorem dX6_block_49 : decode cX6_block 49 = .ok (.idiv, 1) := by decide +kernel
theorem dX6_block_50 : decode cX6_block 50 = .ok (.invokevirtual 59, 3) := by decide +kernel
theorem dX6_block_53 : decode cX6_block 53 = .ok (.istore 7, 2) := by decide +kernel
theorem dX6_block_55 : decode cX6_block 55 = .ok (.iload 4, 2) := by decide +kernel
theorem dX6_block_57 : decode cX6_block 57 = .ok (.tableswitch 72 0 5 #[39, 42, 45, 53, 61, 69], 39) := by decide +kernel
theorem dX6_block_96 : decode cX6_block 96 = .ok (.iload 7, 2) := by decide +kernel
theorem dX6_block_98 : decode cX6_block 98 = .ok (.ireturn, 1) := by decide +kernel
theorem dX6_block_99 : decode cX6_block 99 = .ok (.iload 6, 2) := by decide +kernel
theorem dX6_block_101 : decode cX6_block 101 = .ok (.ireturn, 1) := by decide +kernel
theorem dX6_block_102 : decode cX6_block 102 = .ok (.iload_n 2, 1) := by decide +kernel
theorem dX6_block_103 : decode cX6_block 103 = .ok (.iload 6, 2) := by decide +kernel
theorem dX6_block_105 : decode cX6_block 105 = .ok (.idiv, 1) := by decide +kernel
theorem dX6_block_106 : decode cX6_block 106 = .ok (.iload 6, 2) := by decide +kernel
theorem dX6_block_108 : decode cX6_block 108 = .ok (.imul, 1) := by decide +kernel
theorem dX6_block_109 : decode cX6_block 109 = .ok (.ireturn, 1) := by decide +kernel
theorem dX6_block_110 : decode cX6_block 110 = .ok (.iload_n 3, 1) := by decide +kernel
theorem dX6_block_111 : decode cX6_block 111 = .ok (.iload 6, 2) := by decide +kernel
theorem dX6_block_113 : decode cX6_block 113 = .ok (.idiv, 1) := by decide +kernel
theorem dX6_block_114 : decode cX6_block 114 = .ok (.iload 6, 2) := by decide +kernel
theorem dX6_block_116 : decode cX6_block 116 = .ok (.imul, 1) := by decide +kernel
theorem dX6_block_117 : decode cX6_block 117 = .ok (.ireturn, 1) := by decide +kernel
theorem dX6_block_118 : decode cX6_block 118 = .ok (.iload 7, 2) := by decide +kernel
theorem dX6_block_120 : decode cX6_block 120 = .ok (.iload 6, 2) := by decide +kernel
theorem dX6_block_122 : decode cX6_block 122 = .ok (.invokestatic 71, 3) := by decide +kernel
theorem dX6_block_125 : decode cX6_block 125 = .ok (.ireturn, 1) := by decide +kernel
theorem dX6_block_126 : decode cX6_block 126 = .ok (.iload 5, 2) := by decide +kernel
theorem dX6_block_128 : decode cX6_block 128 = .ok (.ireturn, 1) := by decide +kernel
theorem dX6_block_129 : decode cX6_block 129 = .ok (.bipush (-2), 2) := by decide +kernel
theorem dX6_block_131 : decode cX6_block 131 = .ok (.ireturn, 1) := by decide +kernel
theorem dX6_overBlocks_0 : decode cX6_overBlocks 0 = .ok (.iconst 0, 1) := by decide +kernel
theorem dX6_overBlocks_1 : decode cX6_overBlocks 1 = .ok (.istore_n 3, 1) := by decide +kernel
theorem dX6_overBlocks_2 : decode cX6_overBlocks 2 = .ok (.iconst 0, 1) := by decide +kernel
theorem dX6_overBlocks_3 : decode cX6_overBlocks 3 = .ok (.istore 4, 2) := by decide +kernel
theorem dX6_overBlocks_5 : decode cX6_overBlocks 5 = .ok (.iload 4, 2) := by decide +kernel
theorem dX6_overBlocks_7 : decode cX6_overBlocks 7 = .ok (.iconst 4, 1) := by decide +kernel
theorem dX6_overBlocks_8 : decode cX6_overBlocks 8 = .ok (.if_icmp .ge 108, 3) := by decide +kernel
theorem dX6_overBlocks_11 : decode cX6_overBlocks 11 = .ok (.iconst 1, 1) := by decide +kernel
theorem dX6_overBlocks_12 : decode cX6_overBlocks 12 = .ok (.iload 4, 2) := by decide +kernel
theorem dX6_overBlocks_14 : decode cX6_overBlocks 14 = .ok (.ishl, 1) := by decide +kernel
theorem dX6_overBlocks_15 : decode cX6_overBlocks 15 = .ok (.istore 5, 2) := by decide +kernel
theorem dX6_overBlocks_17 : decode cX6_overBlocks 17 = .ok (.iconst 0, 1) := by decide +kernel
theorem dX6_overBlocks_18 : decode cX6_overBlocks 18 = .ok (.istore 6, 2) := by decide +kernel
theorem dX6_overBlocks_20 : decode cX6_overBlocks 20 = .ok (.iload 6, 2) := by decide +kernel
theorem dX6_overBlocks_22 : decode cX6_overBlocks 22 = .ok (.iload 5, 2) := by decide +kernel
theorem dX6_overBlocks_24 : decode cX6_overBlocks 24 = .ok (.iload 5, 2) := by decide +kernel
theorem dX6_overBlocks_26 : decode cX6_overBlocks 26 = .ok (.imul, 1) := by decide +kernel
theorem dX6_overBlocks_27 : decode cX6_overBlocks 27 = .ok (.if_icmp .ge 83, 3) := by decide +kernel
theorem dX6_overBlocks_30 : decode cX6_overBlocks 30 = .ok (.aload_n 0, 1) := by decide +kernel
theorem dX6_overBlocks_31 : decode cX6_overBlocks 31 = .ok (.iload_n 1, 1) := by decide +kernel
theorem dX6_overBlocks_32 : decode cX6_overBlocks 32 = .ok (.iload 4, 2) := by decide +kernel
theorem dX6_overBlocks_34 : decode cX6_overBlocks 34 = .ok (.iload 6, 2) := by decide +kernel
theorem dX6_overBlocks_36 : decode cX6_overBlocks 36 = .ok (.iload 5, 2) := by decide +kernel
theorem dX6_overBlocks_38 : decode cX6_overBlocks 38 = .ok (.idiv, 1) := by decide +kernel
theorem dX6_overBlocks_39 : decode cX6_overBlocks 39 = .ok (.iload 6, 2) := by decide +kernel
theorem dX6_overBlocks_41 : decode cX6_overBlocks 41 = .ok (.iload 5, 2) := by decide +kernel
theorem dX6_overBlocks_43 : decode cX6_overBlocks 43 = .ok (.irem, 1) := by decide +kernel
theorem dX6_overBlocks_44 : decode cX6_overBlocks 44 = .ok (.invokevirtual 63, 3) := by decide +kernel
theorem dX6_overBlocks_47 : decode cX6_overBlocks 47 = .ok (.istore 7, 2) := by decide +kernel
theorem dX6_overBlocks_49 : decode cX6_overBlocks 49 = .ok (.iload_n 2, 1) := by decide +kernel
theorem dX6_overBlocks_50 : decode cX6_overBlocks 50 = .ok (.iconst 1, 1) := by decide +kernel
theorem dX6_overBlocks_51 : decode cX6_overBlocks 51 = .ok (.if_icmp .ne 17, 3) := by decide +kernel
theorem dX6_overBlocks_54 : decode cX6_overBlocks 54 = .ok (.iload 7, 2) := by decide +kernel
theorem dX6_overBlocks_56 : decode cX6_overBlocks 56 = .ok (.ifCond .eq 8, 3) := by decide +kernel
theorem dX6_overBlocks_59 : decode cX6_overBlocks 59 = .ok (.iload 4, 2) := by decide +kernel
theorem dX6_overBlocks_61 : decode cX6_overBlocks 61 = .ok (.goto 42, 3) := by decide +kernel
theorem dX6_overBlocks_64 : decode cX6_overBlocks 64 = .ok (.iload_n 3, 1) := by decide +kernel
theorem dX6_overBlocks_65 : decode cX6_overBlocks 65 = .ok (.goto 38, 3) := by decide +kernel
theorem dX6_overBlocks_68 : decode cX6_overBlocks 68 = .ok (.iload_n 3, 1) := by decide +kernel
theorem dX6_overBlocks_69 : decode cX6_overBlocks 69 = .ok (.iload 7, 2) := by decide +kernel
theorem dX6_overBlocks_71 : decode cX6_overBlocks 71 = .ok (.ifCond .eq 30, 3) := by decide +kernel
theorem dX6_overBlocks_74 : decode cX6_overBlocks 74 = .ok (.aload_n 0, 1) := by decide +kernel
theorem dX6_overBlocks_75 : decode cX6_overBlocks 75 = .ok (.iload_n 1, 1) := by decide +kernel
theorem dX6_overBlocks_76 : decode cX6_overBlocks 76 = .ok (.iload 4, 2) := by decide +kernel
theorem dX6_overBlocks_78 : decode cX6_overBlocks 78 = .ok (.iload 6, 2) := by decide +kernel
theorem dX6_overBlocks_80 : decode cX6_overBlocks 80 = .ok (.iload 5, 2) := by decide +kernel
theorem dX6_overBlocks_82 : decode cX6_overBlocks 82 = .ok (.idiv, 1) := by decide +kernel
theorem dX6_overBlocks_83 : decode cX6_overBlocks 83 = .ok (.iload 6, 2) := by decide +kernel
theorem dX6_overBlocks_85 : decode cX6_overBlocks 85 = .ok (.iload 5, 2) := by decide +kernel
theorem dX6_overBlocks_87 : decode cX6_overBlocks 87 = .ok (.irem, 1) := by decide +kernel
theorem dX6_overBlocks_88 : decode cX6_overBlocks 88 = .ok (.invokevirtual 59, 3) := by decide +kernel
theorem dX6_overBlocks_91 : decode cX6_overBlocks 91 = .ok (.iload_n 2, 1) := by decide +kernel
theorem dX6_overBlocks_92 : decode cX6_overBlocks 92 = .ok (.iconst 2, 1) := by decide +kernel
theorem dX6_overBlocks_93 : decode cX6_overBlocks 93 = .ok (.isub, 1) := by decide +kernel
theorem dX6_overBlocks_94 : decode cX6_overBlocks 94 = .ok (.if_icmp .ne 7, 3) := by decide +kernel
theorem dX6_overBlocks_97 : decode cX6_overBlocks 97 = .ok (.iconst 1, 1) := by decide +kernel
theorem dX6_overBlocks_98 : decode cX6_overBlocks 98 = .ok (.goto 4, 3) := by decide +kernel
theorem dX6_overBlocks_101 : decode cX6_overBlocks 101 = .ok (.iconst 0, 1) := by decide +kernel
theorem dX6_overBlocks_102 : decode cX6_overBlocks 102 = .ok (.iadd, 1) := by decide +kernel
theorem dX6_overBlocks_103 : decode cX6_overBlocks 103 = .ok (.istore_n 3, 1) := by decide +kernel
theorem dX6_overBlocks_104 : decode cX6_overBlocks 104 = .ok (.iinc 6 1, 3) := by decide +kernel
theorem dX6_overBlocks_107 : decode cX6_overBlocks 107 = .ok (.goto (-87), 3) := by decide +kernel
theorem dX6_overBlocks_110 : decode cX6_overBlocks 110 = .ok (.iinc 4 1, 3) := by decide +kernel
theorem dX6_overBlocks_113 : decode cX6_overBlocks 113 = .ok (.goto (-108), 3) := by decide +kernel
theorem dX6_overBlocks_116 : decode cX6_overBlocks 116 = .ok (.iload_n 3, 1) := by decide +kernel
theorem dX6_overBlocks_117 : decode cX6_overBlocks 117 = .ok (.ireturn, 1) := by decide +kernel
theorem dX6_overEntries_0 : decode cX6_overEntries 0 = .ok (.iconst 0, 1) := by decide +kernel
theorem dX6_overEntries_1 : decode cX6_overEntries 1 = .ok (.istore_n 3, 1) := by decide +kernel
theorem dX6_overEntries_2 : decode cX6_overEntries 2 = .ok (.ldc 122, 2) := by decide +kernel
theorem dX6_overEntries_4 : decode cX6_overEntries 4 = .ok (.istore 4, 2) := by decide +kernel
theorem dX6_overEntries_6 : decode cX6_overEntries 6 = .ok (.ldc 123, 2) := by decide +kernel
theorem dX6_overEntries_8 : decode cX6_overEntries 8 = .ok (.istore 5, 2) := by decide +kernel
theorem dX6_overEntries_10 : decode cX6_overEntries 10 = .ok (.iconst 1, 1) := by decide +kernel
theorem dX6_overEntries_11 : decode cX6_overEntries 11 = .ok (.istore 6, 2) := by decide +kernel
theorem dX6_overEntries_13 : decode cX6_overEntries 13 = .ok (.iconst 0, 1) := by decide +kernel
theorem dX6_overEntries_14 : decode cX6_overEntries 14 = .ok (.istore 7, 2) := by decide +kernel
theorem dX6_overEntries_16 : decode cX6_overEntries 16 = .ok (.iload 7, 2) := by decide +kernel
theorem dX6_overEntries_18 : decode cX6_overEntries 18 = .ok (.sipush 256, 3) := by decide +kernel
theorem dX6_overEntries_21 : decode cX6_overEntries 21 = .ok (.if_icmp .ge 103, 3) := by decide +kernel
theorem dX6_overEntries_24 : decode cX6_overEntries 24 = .ok (.aload_n 0, 1) := by decide +kernel
theorem dX6_overEntries_25 : decode cX6_overEntries 25 = .ok (.iload_n 1, 1) := by decide +kernel
theorem dX6_overEntries_26 : decode cX6_overEntries 26 = .ok (.iload 7, 2) := by decide +kernel
theorem dX6_overEntries_28 : decode cX6_overEntries 28 = .ok (.bipush 16, 2) := by decide +kernel
theorem dX6_overEntries_30 : decode cX6_overEntries 30 = .ok (.idiv, 1) := by decide +kernel
theorem dX6_overEntries_31 : decode cX6_overEntries 31 = .ok (.iload 7, 2) := by decide +kernel
theorem dX6_overEntries_33 : decode cX6_overEntries 33 = .ok (.bipush 16, 2) := by decide +kernel
theorem dX6_overEntries_35 : decode cX6_overEntries 35 = .ok (.irem, 1) := by decide +kernel
theorem dX6_overEntries_36 : decode cX6_overEntries 36 = .ok (.invokevirtual 81, 3) := by decide +kernel
theorem dX6_overEntries_39 : decode cX6_overEntries 39 = .ok (.istore 8, 2) := by decide +kernel
theorem dX6_overEntries_41 : decode cX6_overEntries 41 = .ok (.iload_n 3, 1) := by decide +kernel
theorem dX6_overEntries_42 : decode cX6_overEntries 42 = .ok (.iload 8, 2) := by decide +kernel
theorem dX6_overEntries_44 : decode cX6_overEntries 44 = .ok (.ifCond .eq 7, 3) := by decide +kernel
theorem dX6_overEntries_47 : decode cX6_overEntries 47 = .ok (.iconst 1, 1) := by decide +kernel
theorem dX6_overEntries_48 : decode cX6_overEntries 48 = .ok (.goto 4, 3) := by decide +kernel
theorem dX6_overEntries_51 : decode cX6_overEntries 51 = .ok (.iconst 0, 1) := by decide +kernel
theorem dX6_overEntries_52 : decode cX6_overEntries 52 = .ok (.iadd, 1) := by decide +kernel
theorem dX6_overEntries_53 : decode cX6_overEntries 53 = .ok (.istore_n 3, 1) := by decide +kernel
theorem dX6_overEntries_54 : decode cX6_overEntries 54 = .ok (.iload 8, 2) := by decide +kernel
theorem dX6_overEntries_56 : decode cX6_overEntries 56 = .ok (.iload 4, 2) := by decide +kernel
theorem dX6_overEntries_58 : decode cX6_overEntries 58 = .ok (.if_icmp .le 8, 3) := by decide +kernel
theorem dX6_overEntries_61 : decode cX6_overEntries 61 = .ok (.iload 8, 2) := by decide +kernel
theorem dX6_overEntries_63 : decode cX6_overEntries 63 = .ok (.goto 5, 3) := by decide +kernel
theorem dX6_overEntries_66 : decode cX6_overEntries 66 = .ok (.iload 4, 2) := by decide +kernel
theorem dX6_overEntries_68 : decode cX6_overEntries 68 = .ok (.istore 4, 2) := by decide +kernel
theorem dX6_overEntries_70 : decode cX6_overEntries 70 = .ok (.iload 8, 2) := by decide +kernel
theorem dX6_overEntries_72 : decode cX6_overEntries 72 = .ok (.iload 5, 2) := by decide +kernel
theorem dX6_overEntries_74 : decode cX6_overEntries 74 = .ok (.if_icmp .ge 8, 3) := by decide +kernel
theorem dX6_overEntries_77 : decode cX6_overEntries 77 = .ok (.iload 8, 2) := by decide +kernel
theorem dX6_overEntries_79 : decode cX6_overEntries 79 = .ok (.goto 5, 3) := by decide +kernel
theorem dX6_overEntries_82 : decode cX6_overEntries 82 = .ok (.iload 5, 2) := by decide +kernel
theorem dX6_overEntries_84 : decode cX6_overEntries 84 = .ok (.istore 5, 2) := by decide +kernel
theorem dX6_overEntries_86 : decode cX6_overEntries 86 = .ok (.iload 6, 2) := by decide +kernel
theorem dX6_overEntries_88 : decode cX6_overEntries 88 = .ok (.ifCond .eq 27, 3) := by decide +kernel
theorem dX6_overEntries_91 : decode cX6_overEntries 91 = .ok (.iload 8, 2) := by decide +kernel
theorem dX6_overEntries_93 : decode cX6_overEntries 93 = .ok (.aload_n 0, 1) := by decide +kernel
theorem dX6_overEntries_94 : decode cX6_overEntries 94 = .ok (.iload_n 1, 1) := by decide +kernel
theorem dX6_overEntries_95 : decode cX6_overEntries 95 = .ok (.iload 7, 2) := by decide +kernel
theorem dX6_overEntries_97 : decode cX6_overEntries 97 = .ok (.bipush 16, 2) := by decide +kernel
theorem dX6_overEntries_99 : decode cX6_overEntries 99 = .ok (.irem, 1) := by decide +kernel
theorem dX6_overEntries_100 : decode cX6_overEntries 100 = .ok (.iload 7, 2) := by decide +kernel
theorem dX6_overEntries_102 : decode cX6_overEntries 102 = .ok (.bipush 16, 2) := by decide +kernel
theorem dX6_overEntries_104 : decode cX6_overEntries 104 = .ok (.idiv, 1) := by decide +kernel
theorem dX6_overEntries_105 : decode cX6_overEntries 105 = .ok (.invokevirtual 81, 3) := by decide +kernel
theorem dX6_overEntries_108 : decode cX6_overEntries 108 = .ok (.if_icmp .ne 7, 3) := by decide +kernel
theorem dX6_overEntries_111 : decode cX6_overEntries 111 = .ok (.iconst 1, 1) := by decide +kernel
theorem dX6_overEntries_112 : decode cX6_overEntries 112 = .ok (.goto 4, 3) := by decide +kernel
theorem dX6_overEntries_115 : decode cX6_overEntries 115 = .ok (.iconst 0, 1) := by decide +kernel
theorem dX6_overEntries_116 : decode cX6_overEntries 116 = .ok (.istore 6, 2) := by decide +kernel
theorem dX6_overEntries_118 : decode cX6_overEntries 118 = .ok (.iinc 7 1, 3) := by decide +kernel
theorem dX6_overEntries_121 : decode cX6_overEntries 121 = .ok (.goto (-105), 3) := by decide +kernel
theorem dX6_overEntries_124 : decode cX6_overEntries 124 = .ok (.iload_n 2, 1) := by decide +kernel
theorem dX6_overEntries_125 : decode cX6_overEntries 125 = .ok (.bipush 6, 2) := by decide +kernel
theorem dX6_overEntries_127 : decode cX6_overEntries 127 = .ok (.if_icmp .ne 7, 3) := by decide +kernel
theorem dX6_overEntries_130 : decode cX6_overEntries 130 = .ok (.iload_n 3, 1) := by decide +kernel
theorem dX6_overEntries_131 : decode cX6_overEntries 131 = .ok (.goto 41, 3) := by decide +kernel
theorem dX6_overEntries_134 : decode cX6_overEntries 134 = .ok (.iload_n 2, 1) := by decide +kernel
theorem dX6_overEntries_135 : decode cX6_overEntries 135 = .ok (.bipush 8, 2) := by decide +kernel
theorem dX6_overEntries_137 : decode cX6_overEntries 137 = .ok (.if_icmp .ne 11, 3) := by decide +kernel
theorem dX6_overEntries_140 : decode cX6_overEntries 140 = .ok (.iload 4, 2) := by decide +kernel
theorem dX6_overEntries_142 : decode cX6_overEntries 142 = .ok (.ldc 123, 2) := by decide +kernel
theorem dX6_overEntries_144 : decode cX6_overEntries 144 = .ok (.iadd, 1) := by decide +kernel
theorem dX6_overEntries_145 : decode cX6_overEntries 145 = .ok (.goto 27, 3) := by decide +kernel
theorem dX6_overEntries_148 : decode cX6_overEntries 148 = .ok (.iload_n 2, 1) := by decide +kernel
theorem dX6_overEntries_149 : decode cX6_overEntries 149 = .ok (.bipush 9, 2) := by decide +kernel
theorem dX6_overEntries_151 : decode cX6_overEntries 151 = .ok (.if_icmp .ne 11, 3) := by decide +kernel
theorem dX6_overEntries_154 : decode cX6_overEntries 154 = .ok (.iload 5, 2) := by decide +kernel
theorem dX6_overEntries_156 : decode cX6_overEntries 156 = .ok (.ldc 123, 2) := by decide +kernel
theorem dX6_overEntries_158 : decode cX6_overEntries 158 = .ok (.iadd, 1) := by decide +kernel
theorem dX6_overEntries_159 : decode cX6_overEntries 159 = .ok (.goto 13, 3) := by decide +kernel
theorem dX6_overEntries_162 : decode cX6_overEntries 162 = .ok (.iload 6, 2) := by decide +kernel
theorem dX6_overEntries_164 : decode cX6_overEntries 164 = .ok (.ifCond .eq 7, 3) := by decide +kernel
theorem dX6_overEntries_167 : decode cX6_overEntries 167 = .ok (.iconst 1, 1) := by decide +kernel
theorem dX6_overEntries_168 : decode cX6_overEntries 168 = .ok (.goto 4, 3) := by decide +kernel
theorem dX6_overEntries_171 : decode cX6_overEntries 171 = .ok (.iconst 0, 1) := by decide +kernel
theorem dX6_overEntries_172 : decode cX6_overEntries 172 = .ok (.ireturn, 1) := by decide +kernel
theorem dX6_of_0 : decode cX6_of 0 = .ok (.aload_n 0, 1) := by decide +kernel
theorem dX6_of_1 : decode cX6_of 1 = .ok (.iconst 0, 1) := by decide +kernel
theorem dX6_of_2 : decode cX6_of 2 = .ok (.putfield 41, 3) := by decide +kernel
theorem dX6_of_5 : decode cX6_of 5 = .ok (.iload_n 1, 1) := by decide +kernel
theorem dX6_of_6 : decode cX6_of 6 = .ok (.invokestatic 104, 3) := by decide +kernel
theorem dX6_of_9 : decode cX6_of 9 = .ok (.ifCond .ne 5, 3) := by decide +kernel
theorem dX6_of_12 : decode cX6_of 12 = .ok (.iconst (-1), 1) := by decide +kernel
theorem dX6_of_13 : decode cX6_of 13 = .ok (.ireturn, 1) := by decide +kernel
theorem dX6_of_14 : decode cX6_of 14 = .ok (.iload_n 2, 1) := by decide +kernel
theorem dX6_of_15 : decode cX6_of 15 = .ok (.tableswitch 86 0 10 #[57, 63, 63, 63, 63, 63, 79, 70, 79, 79, 79], 57) := by decide +kernel
theorem dX6_of_72 : decode cX6_of 72 = .ok (.aload_n 0, 1) := by decide +kernel
theorem dX6_of_73 : decode cX6_of 73 = .ok (.iload_n 1, 1) := by decide +kernel
theorem dX6_of_74 : decode cX6_of 74 = .ok (.invokevirtual 78, 3) := by decide +kernel
theorem dX6_of_77 : decode cX6_of 77 = .ok (.ireturn, 1) := by decide +kernel
theorem dX6_of_78 : decode cX6_of 78 = .ok (.aload_n 0, 1) := by decide +kernel
theorem dX6_of_79 : decode cX6_of 79 = .ok (.iload_n 1, 1) := by decide +kernel
theorem dX6_of_80 : decode cX6_of 80 = .ok (.iload_n 2, 1) := by decide +kernel
theorem dX6_of_81 : decode cX6_of 81 = .ok (.invokevirtual 155, 3) := by decide +kernel
theorem dX6_of_84 : decode cX6_of 84 = .ok (.ireturn, 1) := by decide +kernel
theorem dX6_of_85 : decode cX6_of 85 = .ok (.aload_n 0, 1) := by decide +kernel
theorem dX6_of_86 : decode cX6_of 86 = .ok (.iload_n 1, 1) := by decide +kernel
theorem dX6_of_87 : decode cX6_of 87 = .ok (.invokevirtual 148, 3) := by decide +kernel
theorem dX6_of_90 : decode cX6_of 90 = .ok (.ldc 151, 2) := by decide +kernel
theorem dX6_of_92 : decode cX6_of 92 = .ok (.iadd, 1) := by decide +kernel
theorem dX6_of_93 : decode cX6_of 93 = .ok (.ireturn, 1) := by decide +kernel
theorem dX6_of_94 : decode cX6_of 94 = .ok (.aload_n 0, 1) := by decide +kernel
theorem dX6_of_95 : decode cX6_of 95 = .ok (.iload_n 1, 1) := by decide +kernel
theorem dX6_of_96 : decode cX6_of 96 = .ok (.iload_n 2, 1) := by decide +kernel
theorem dX6_of_97 : decode cX6_of 97 = .ok (.invokevirtual 158, 3) := by decide +kernel
theorem dX6_of_100 : decode cX6_of 100 = .ok (.ireturn, 1) := by decide +kernel
theorem dX6_of_101 : decode cX6_of 101 = .ok (.bipush (-2), 2) := by decide +kernel
theorem dX6_of_103 : decode cX6_of 103 = .ok (.ireturn, 1) := by decide +kernel
theorem dX6_product_0 : decode cX6_product 0 = .ok (.aload_n 0, 1) := by decide +kernel
theorem dX6_product_1 : decode cX6_product 1 = .ok (.iconst 0, 1) := by decide +kernel
theorem dX6_product_2 : decode cX6_product 2 = .ok (.putfield 41, 3) := by decide +kernel
theorem dX6_product_5 : decode cX6_product 5 = .ok (.iload_n 1, 1) := by decide +kernel
theorem dX6_product_6 : decode cX6_product 6 = .ok (.invokestatic 104, 3) := by decide +kernel
theorem dX6_product_9 : decode cX6_product 9 = .ok (.ifCond .eq 40, 3) := by decide +kernel
theorem dX6_product_12 : decode cX6_product 12 = .ok (.iload_n 2, 1) := by decide +kernel
theorem dX6_product_13 : decode cX6_product 13 = .ok (.iconst 0, 1) := by decide +kernel
theorem dX6_product_14 : decode cX6_product 14 = .ok (.bipush 15, 2) := by decide +kernel
theorem dX6_product_16 : decode cX6_product 16 = .ok (.invokestatic 45, 3) := by decide +kernel
theorem dX6_product_19 : decode cX6_product 19 = .ok (.ifCond .eq 30, 3) := by decide +kernel
theorem dX6_product_22 : decode cX6_product 22 = .ok (.iload_n 3, 1) := by decide +kernel
theorem dX6_product_23 : decode cX6_product 23 = .ok (.sipush (-9999), 3) := by decide +kernel
theorem dX6_product_26 : decode cX6_product 26 = .ok (.sipush 9999, 3) := by decide +kernel
theorem dX6_product_29 : decode cX6_product 29 = .ok (.invokestatic 45, 3) := by decide +kernel
theorem dX6_product_32 : decode cX6_product 32 = .ok (.ifCond .eq 17, 3) := by decide +kernel
theorem dX6_product_35 : decode cX6_product 35 = .ok (.iload 4, 2) := by decide +kernel
theorem dX6_product_37 : decode cX6_product 37 = .ok (.sipush (-999), 3) := by decide +kernel
theorem dX6_product_40 : decode cX6_product 40 = .ok (.sipush 999, 3) := by decide +kernel
theorem dX6_product_43 : decode cX6_product 43 = .ok (.invokestatic 45, 3) := by decide +kernel
theorem dX6_product_46 : decode cX6_product 46 = .ok (.ifCond .ne 7, 3) := by decide +kernel
theorem dX6_product_49 : decode cX6_product 49 = .ok (.ldc2_w 161, 3) := by decide +kernel
theorem dX6_product_52 : decode cX6_product 52 = .ok (.lreturn, 1) := by decide +kernel
theorem dX6_product_53 : decode cX6_product 53 = .ok (.lconst 0, 1) := by decide +kernel
theorem dX6_product_54 : decode cX6_product 54 = .ok (.lstore 5, 2) := by decide +kernel
theorem dX6_product_56 : decode cX6_product 56 = .ok (.iconst 0, 1) := by decide +kernel
theorem dX6_product_57 : decode cX6_product 57 = .ok (.istore 7, 2) := by decide +kernel
theorem dX6_product_59 : decode cX6_product 59 = .ok (.iload 7, 2) := by decide +kernel
theorem dX6_product_61 : decode cX6_product 61 = .ok (.bipush 16, 2) := by decide +kernel
theorem dX6_product_63 : decode cX6_product 63 = .ok (.if_icmp .ge 32, 3) := by decide +kernel
theorem dX6_product_66 : decode cX6_product 66 = .ok (.lload 5, 2) := by decide +kernel
theorem dX6_product_68 : decode cX6_product 68 = .ok (.aload_n 0, 1) := by decide +kernel
theorem dX6_product_69 : decode cX6_product 69 = .ok (.iload_n 1, 1) := by decide +kernel
theorem dX6_product_70 : decode cX6_product 70 = .ok (.iload_n 2, 1) := by decide +kernel
theorem dX6_product_71 : decode cX6_product 71 = .ok (.iload 7, 2) := by decide +kernel
theorem dX6_product_73 : decode cX6_product 73 = .ok (.invokevirtual 81, 3) := by decide +kernel
theorem dX6_product_76 : decode cX6_product 76 = .ok (.i2l, 1) := by decide +kernel
theorem dX6_product_77 : decode cX6_product 77 = .ok (.iload_n 3, 1) := by decide +kernel
theorem dX6_product_78 : decode cX6_product 78 = .ok (.iload 4, 2) := by decide +kernel
theorem dX6_product_80 : decode cX6_product 80 = .ok (.iload 7, 2) := by decide +kernel
theorem dX6_product_82 : decode cX6_product 82 = .ok (.imul, 1) := by decide +kernel
theorem dX6_product_83 : decode cX6_product 83 = .ok (.iadd, 1) := by decide +kernel
theorem dX6_product_84 : decode cX6_product 84 = .ok (.i2l, 1) := by decide +kernel
theorem dX6_product_85 : decode cX6_product 85 = .ok (.lmul, 1) := by decide +kernel
theorem dX6_product_86 : decode cX6_product 86 = .ok (.ladd, 1) := by decide +kernel
theorem dX6_product_87 : decode cX6_product 87 = .ok (.lstore 5, 2) := by decide +kernel
theorem dX6_product_89 : decode cX6_product 89 = .ok (.iinc 7 1, 3) := by decide +kernel
theorem dX6_product_92 : decode cX6_product 92 = .ok (.goto (-33), 3) := by decide +kernel
theorem dX6_product_95 : decode cX6_product 95 = .ok (.lload 5, 2) := by decide +kernel
theorem dX6_product_97 : decode cX6_product 97 = .ok (.lreturn, 1) := by decide +kernel
theorem dX6_mean_0 : decode cX6_mean 0 = .ok (.aload_n 0, 1) := by decide +kernel
theorem dX6_mean_1 : decode cX6_mean 1 = .ok (.iconst 0, 1) := by decide +kernel
theorem dX6_mean_2 : decode cX6_mean 2 = .ok (.putfield 41, 3) := by decide +kernel
theorem dX6_mean_5 : decode cX6_mean 5 = .ok (.iconst 0, 1) := by decide +kernel
theorem dX6_mean_6 : decode cX6_mean 6 = .ok (.istore_n 2, 1) := by decide +kernel
theorem dX6_mean_7 : decode cX6_mean 7 = .ok (.iconst 0, 1) := by decide +kernel
theorem dX6_mean_8 : decode cX6_mean 8 = .ok (.istore_n 3, 1) := by decide +kernel
theorem dX6_mean_9 : decode cX6_mean 9 = .ok (.iload_n 3, 1) := by decide +kernel
theorem dX6_mean_10 : decode cX6_mean 10 = .ok (.sipush 256, 3) := by decide +kernel
theorem dX6_mean_13 : decode cX6_mean 13 = .ok (.if_icmp .ge 32, 3) := by decide +kernel
theorem dX6_mean_16 : decode cX6_mean 16 = .ok (.iload_n 1, 1) := by decide +kernel
theorem dX6_mean_17 : decode cX6_mean 17 = .ok (.invokestatic 104, 3) := by decide +kernel
theorem dX6_mean_20 : decode cX6_mean 20 = .ok (.ifCond .eq 25, 3) := by decide +kernel
theorem dX6_mean_23 : decode cX6_mean 23 = .ok (.iload_n 2, 1) := by decide +kernel
theorem dX6_mean_24 : decode cX6_mean 24 = .ok (.aload_n 0, 1) := by decide +kernel
theorem dX6_mean_25 : decode cX6_mean 25 = .ok (.iload_n 1, 1) := by decide +kernel
theorem dX6_mean_26 : decode cX6_mean 26 = .ok (.iload_n 3, 1) := by decide +kernel
theorem dX6_mean_27 : decode cX6_mean 27 = .ok (.bipush 16, 2) := by decide +kernel
theorem dX6_mean_29 : decode cX6_mean 29 = .ok (.idiv, 1) := by decide +kernel
theorem dX6_mean_30 : decode cX6_mean 30 = .ok (.iload_n 3, 1) := by decide +kernel
theorem dX6_mean_31 : decode cX6_mean 31 = .ok (.bipush 16, 2) := by decide +kernel
theorem dX6_mean_33 : decode cX6_mean 33 = .ok (.irem, 1) := by decide +kernel
theorem dX6_mean_34 : decode cX6_mean 34 = .ok (.invokevirtual 81, 3) := by decide +kernel
theorem dX6_mean_37 : decode cX6_mean 37 = .ok (.iadd, 1) := by decide +kernel
theorem dX6_mean_38 : decode cX6_mean 38 = .ok (.istore_n 2, 1) := by decide +kernel
theorem dX6_mean_39 : decode cX6_mean 39 = .ok (.iinc 3 1, 3) := by decide +kernel
theorem dX6_mean_42 : decode cX6_mean 42 = .ok (.goto (-33), 3) := by decide +kernel
theorem dX6_mean_45 : decode cX6_mean 45 = .ok (.iload_n 2, 1) := by decide +kernel
theorem dX6_mean_46 : decode cX6_mean 46 = .ok (.i2d, 1) := by decide +kernel
theorem dX6_mean_47 : decode cX6_mean 47 = .ok (.ldc2_w 163, 3) := by decide +kernel
theorem dX6_mean_50 : decode cX6_mean 50 = .ok (.ddiv, 1) := by decide +kernel
theorem dX6_mean_51 : decode cX6_mean 51 = .ok (.invokestatic 165, 3) := by decide +kernel
theorem dX6_mean_54 : decode cX6_mean 54 = .ok (.lreturn, 1) := by decide +kernel
theorem dX6_share_0 : decode cX6_share 0 = .ok (.aload_n 0, 1) := by decide +kernel
theorem dX6_share_1 : decode cX6_share 1 = .ok (.iconst 0, 1) := by decide +kernel
theorem dX6_share_2 : decode cX6_share 2 = .ok (.putfield 41, 3) := by decide +kernel
theorem dX6_share_5 : decode cX6_share 5 = .ok (.iload_n 1, 1) := by decide +kernel
theorem dX6_share_6 : decode cX6_share 6 = .ok (.invokestatic 104, 3) := by decide +kernel
theorem dX6_share_9 : decode cX6_share 9 = .ok (.ifCond .eq 18, 3) := by decide +kernel
theorem dX6_share_12 : decode cX6_share 12 = .ok (.aload_n 0, 1) := by decide +kernel
theorem dX6_share_13 : decode cX6_share 13 = .ok (.iload_n 1, 1) := by decide +kernel
theorem dX6_share_14 : decode cX6_share 14 = .ok (.invokevirtual 78, 3) := by decide +kernel
theorem dX6_share_17 : decode cX6_share 17 = .ok (.i2f, 1) := by decide +kernel
theorem dX6_share_18 : decode cX6_share 18 = .ok (.ldc 171, 2) := by decide +kernel
theorem dX6_share_20 : decode cX6_share 20 = .ok (.fdiv, 1) := by decide +kernel
theorem dX6_share_21 : decode cX6_share 21 = .ok (.invokestatic 172, 3) := by decide +kernel
theorem dX6_share_24 : decode cX6_share 24 = .ok (.goto 4, 3) := by decide +kernel
theorem dX6_share_27 : decode cX6_share 27 = .ok (.iconst (-1), 1) := by decide +kernel
theorem dX6_share_28 : decode cX6_share 28 = .ok (.ireturn, 1) := by decide +kernel
theorem dX6_emptyOnes_0 : decode cX6_emptyOnes 0 = .ok (.iconst 0, 1) := by decide +kernel
theorem dX6_emptyOnes_1 : decode cX6_emptyOnes 1 = .ok (.istore_n 1, 1) := by decide +kernel
theorem dX6_emptyOnes_2 : decode cX6_emptyOnes 2 = .ok (.iconst 0, 1) := by decide +kernel
theorem dX6_emptyOnes_3 : decode cX6_emptyOnes 3 = .ok (.istore_n 2, 1) := by decide +kernel
theorem dX6_emptyOnes_4 : decode cX6_emptyOnes 4 = .ok (.iload_n 2, 1) := by decide +kernel
theorem dX6_emptyOnes_5 : decode cX6_emptyOnes 5 = .ok (.iconst 4, 1) := by decide +kernel
theorem dX6_emptyOnes_6 : decode cX6_emptyOnes 6 = .ok (.if_icmp .ge 30, 3) := by decide +kernel
theorem dX6_emptyOnes_9 : decode cX6_emptyOnes 9 = .ok (.iload_n 1, 1) := by decide +kernel
theorem dX6_emptyOnes_10 : decode cX6_emptyOnes 10 = .ok (.aload_n 0, 1) := by decide +kernel
theorem dX6_emptyOnes_11 : decode cX6_emptyOnes 11 = .ok (.iload_n 2, 1) := by decide +kernel
theorem dX6_emptyOnes_12 : decode cX6_emptyOnes 12 = .ok (.iconst 0, 1) := by decide +kernel
theorem dX6_emptyOnes_13 : decode cX6_emptyOnes 13 = .ok (.iconst 0, 1) := by decide +kernel
theorem dX6_emptyOnes_14 : decode cX6_emptyOnes 14 = .ok (.iconst 0, 1) := by decide +kernel
theorem dX6_emptyOnes_15 : decode cX6_emptyOnes 15 = .ok (.invokevirtual 59, 3) := by decide +kernel
theorem dX6_emptyOnes_18 : decode cX6_emptyOnes 18 = .ok (.ifCond .ne 9, 3) := by decide +kernel
theorem dX6_emptyOnes_21 : decode cX6_emptyOnes 21 = .ok (.iconst 1, 1) := by decide +kernel
theorem dX6_emptyOnes_22 : decode cX6_emptyOnes 22 = .ok (.iload_n 2, 1) := by decide +kernel
theorem dX6_emptyOnes_23 : decode cX6_emptyOnes 23 = .ok (.ishl, 1) := by decide +kernel
theorem dX6_emptyOnes_24 : decode cX6_emptyOnes 24 = .ok (.goto 4, 3) := by decide +kernel
theorem dX6_emptyOnes_27 : decode cX6_emptyOnes 27 = .ok (.iconst 0, 1) := by decide +kernel
theorem dX6_emptyOnes_28 : decode cX6_emptyOnes 28 = .ok (.ior, 1) := by decide +kernel
theorem dX6_emptyOnes_29 : decode cX6_emptyOnes 29 = .ok (.istore_n 1, 1) := by decide +kernel
theorem dX6_emptyOnes_30 : decode cX6_emptyOnes 30 = .ok (.iinc 2 1, 3) := by decide +kernel
theorem dX6_emptyOnes_33 : decode cX6_emptyOnes 33 = .ok (.goto (-29), 3) := by decide +kernel
theorem dX6_emptyOnes_36 : decode cX6_emptyOnes 36 = .ok (.iload_n 1, 1) := by decide +kernel
theorem dX6_emptyOnes_37 : decode cX6_emptyOnes 37 = .ok (.ireturn, 1) := by decide +kernel
theorem dX6_count_0 : decode cX6_count 0 = .ok (.aload_n 0, 1) := by decide +kernel
theorem dX6_count_1 : decode cX6_count 1 = .ok (.iconst 0, 1) := by decide +kernel
theorem dX6_count_2 : decode cX6_count 2 = .ok (.putfield 41, 3) := by decide +kernel
theorem dX6_count_5 : decode cX6_count 5 = .ok (.iload_n 1, 1) := by decide +kernel
theorem dX6_count_6 : decode cX6_count 6 = .ok (.tableswitch 63 0 4 #[34, 39, 44, 53, 58], 34) := by decide +kernel
theorem dX6_count_40 : decode cX6_count 40 = .ok (.aload_n 0, 1) := by decide +kernel
theorem dX6_count_41 : decode cX6_count 41 = .ok (.invokevirtual 178, 3) := by decide +kernel
theorem dX6_count_44 : decode cX6_count 44 = .ok (.ireturn, 1) := by decide +kernel
theorem dX6_count_45 : decode cX6_count 45 = .ok (.aload_n 0, 1) := by decide +kernel
theorem dX6_count_46 : decode cX6_count 46 = .ok (.invokevirtual 181, 3) := by decide +kernel
theorem dX6_count_49 : decode cX6_count 49 = .ok (.ireturn, 1) := by decide +kernel
theorem dX6_count_50 : decode cX6_count 50 = .ok (.aload_n 0, 1) := by decide +kernel
theorem dX6_count_51 : decode cX6_count 51 = .ok (.getfield 7, 3) := by decide +kernel
theorem dX6_count_54 : decode cX6_count 54 = .ok (.sipush 1364, 3) := by decide +kernel
theorem dX6_count_57 : decode cX6_count 57 = .ok (.iaload, 1) := by decide +kernel
theorem dX6_count_58 : decode cX6_count 58 = .ok (.ireturn, 1) := by decide +kernel
theorem dX6_count_59 : decode cX6_count 59 = .ok (.aload_n 0, 1) := by decide +kernel
theorem dX6_count_60 : decode cX6_count 60 = .ok (.getfield 115, 3) := by decide +kernel
theorem dX6_count_63 : decode cX6_count 63 = .ok (.ireturn, 1) := by decide +kernel
theorem dX6_count_64 : decode cX6_count 64 = .ok (.aload_n 0, 1) := by decide +kernel
theorem dX6_count_65 : decode cX6_count 65 = .ok (.getfield 53, 3) := by decide +kernel
theorem dX6_count_68 : decode cX6_count 68 = .ok (.ireturn, 1) := by decide +kernel
theorem dX6_count_69 : decode cX6_count 69 = .ok (.bipush (-2), 2) := by decide +kernel
theorem dX6_count_71 : decode cX6_count 71 = .ok (.ireturn, 1) := by decide +kernel
theorem dX6_far_0 : decode cX6_far 0 = .ok (.aload_n 0, 1) := by decide +kernel
theorem dX6_far_1 : decode cX6_far 1 = .ok (.iconst 0, 1) := by decide +kernel
theorem dX6_far_2 : decode cX6_far 2 = .ok (.putfield 41, 3) := by decide +kernel
theorem dX6_far_5 : decode cX6_far 5 = .ok (.iload_n 1, 1) := by decide +kernel
theorem dX6_far_6 : decode cX6_far 6 = .ok (.invokestatic 104, 3) := by decide +kernel
theorem dX6_far_9 : decode cX6_far 9 = .ok (.ifCond .eq 10, 3) := by decide +kernel
theorem dX6_far_12 : decode cX6_far 12 = .ok (.iload_n 2, 1) := by decide +kernel
theorem dX6_far_13 : decode cX6_far 13 = .ok (.invokestatic 104, 3) := by decide +kernel
theorem dX6_far_16 : decode cX6_far 16 = .ok (.ifCond .ne 5, 3) := by decide +kernel
theorem dX6_far_19 : decode cX6_far 19 = .ok (.iconst (-1), 1) := by decide +kernel
theorem dX6_far_20 : decode cX6_far 20 = .ok (.ireturn, 1) := by decide +kernel
theorem dX6_far_21 : decode cX6_far 21 = .ok (.iconst 0, 1) := by decide +kernel
theorem dX6_far_22 : decode cX6_far 22 = .ok (.istore_n 3, 1) := by decide +kernel
theorem dX6_far_23 : decode cX6_far 23 = .ok (.iconst 0, 1) := by decide +kernel
theorem dX6_far_24 : decode cX6_far 24 = .ok (.istore 4, 2) := by decide +kernel
theorem dX6_far_26 : decode cX6_far 26 = .ok (.iload 4, 2) := by decide +kernel
theorem dX6_far_28 : decode cX6_far 28 = .ok (.sipush 256, 3) := by decide +kernel
theorem dX6_far_31 : decode cX6_far 31 = .ok (.if_icmp .ge 70, 3) := by decide +kernel
theorem dX6_far_34 : decode cX6_far 34 = .ok (.aload_n 0, 1) := by decide +kernel
theorem dX6_far_35 : decode cX6_far 35 = .ok (.iload_n 1, 1) := by decide +kernel
theorem dX6_far_36 : decode cX6_far 36 = .ok (.iload 4, 2) := by decide +kernel
theorem dX6_far_38 : decode cX6_far 38 = .ok (.bipush 16, 2) := by decide +kernel
theorem dX6_far_40 : decode cX6_far 40 = .ok (.idiv, 1) := by decide +kernel
theorem dX6_far_41 : decode cX6_far 41 = .ok (.iload 4, 2) := by decide +kernel
theorem dX6_far_43 : decode cX6_far 43 = .ok (.bipush 16, 2) := by decide +kernel
theorem dX6_far_45 : decode cX6_far 45 = .ok (.irem, 1) := by decide +kernel
theorem dX6_far_46 : decode cX6_far 46 = .ok (.invokevirtual 81, 3) := by decide +kernel
theorem dX6_far_49 : decode cX6_far 49 = .ok (.aload_n 0, 1) := by decide +kernel
theorem dX6_far_50 : decode cX6_far 50 = .ok (.iload_n 2, 1) := by decide +kernel
theorem dX6_far_51 : decode cX6_far 51 = .ok (.iload 4, 2) := by decide +kernel
theorem dX6_far_53 : decode cX6_far 53 = .ok (.bipush 16, 2) := by decide +kernel
theorem dX6_far_55 : decode cX6_far 55 = .ok (.idiv, 1) := by decide +kernel
theorem dX6_far_56 : decode cX6_far 56 = .ok (.iload 4, 2) := by decide +kernel
theorem dX6_far_58 : decode cX6_far 58 = .ok (.bipush 16, 2) := by decide +kernel
theorem dX6_far_60 : decode cX6_far 60 = .ok (.irem, 1) := by decide +kernel
theorem dX6_far_61 : decode cX6_far 61 = .ok (.invokevirtual 81, 3) := by decide +kernel
theorem dX6_far_64 : decode cX6_far 64 = .ok (.isub, 1) := by decide +kernel
theorem dX6_far_65 : decode cX6_far 65 = .ok (.istore 5, 2) := by decide +kernel
theorem dX6_far_67 : decode cX6_far 67 = .ok (.iload 5, 2) := by decide +kernel
theorem dX6_far_69 : decode cX6_far 69 = .ok (.ifCond .ge 9, 3) := by decide +kernel
theorem dX6_far_72 : decode cX6_far 72 = .ok (.iload 5, 2) := by decide +kernel
theorem dX6_far_74 : decode cX6_far 74 = .ok (.ineg, 1) := by decide +kernel
theorem dX6_far_75 : decode cX6_far 75 = .ok (.goto 5, 3) := by decide +kernel
theorem dX6_far_78 : decode cX6_far 78 = .ok (.iload 5, 2) := by decide +kernel
theorem dX6_far_80 : decode cX6_far 80 = .ok (.istore 5, 2) := by decide +kernel
theorem dX6_far_82 : decode cX6_far 82 = .ok (.iload 5, 2) := by decide +kernel
theorem dX6_far_84 : decode cX6_far 84 = .ok (.iload_n 3, 1) := by decide +kernel
theorem dX6_far_85 : decode cX6_far 85 = .ok (.if_icmp .le 8, 3) := by decide +kernel
theorem dX6_far_88 : decode cX6_far 88 = .ok (.iload 5, 2) := by decide +kernel
theorem dX6_far_90 : decode cX6_far 90 = .ok (.goto 4, 3) := by decide +kernel
theorem dX6_far_93 : decode cX6_far 93 = .ok (.iload_n 3, 1) := by decide +kernel
theorem dX6_far_94 : decode cX6_far 94 = .ok (.istore_n 3, 1) := by decide +kernel
theorem dX6_far_95 : decode cX6_far 95 = .ok (.iinc 4 1, 3) := by decide +kernel
theorem dX6_far_98 : decode cX6_far 98 = .ok (.goto (-72), 3) := by decide +kernel
theorem dX6_far_101 : decode cX6_far 101 = .ok (.iload_n 3, 1) := by decide +kernel
theorem dX6_far_102 : decode cX6_far 102 = .ok (.ireturn, 1) := by decide +kernel
theorem dX6_wouldTake_0 : decode cX6_wouldTake 0 = .ok (.aload_n 0, 1) := by decide +kernel
theorem dX6_wouldTake_1 : decode cX6_wouldTake 1 = .ok (.iconst 0, 1) := by decide +kernel
theorem dX6_wouldTake_2 : decode cX6_wouldTake 2 = .ok (.putfield 41, 3) := by decide +kernel
theorem dX6_wouldTake_5 : decode cX6_wouldTake 5 = .ok (.iload_n 1, 1) := by decide +kernel
theorem dX6_wouldTake_6 : decode cX6_wouldTake 6 = .ok (.invokestatic 104, 3) := by decide +kernel
theorem dX6_wouldTake_9 : decode cX6_wouldTake 9 = .ok (.ifCond .ne 5, 3) := by decide +kernel
theorem dX6_wouldTake_12 : decode cX6_wouldTake 12 = .ok (.iconst (-1), 1) := by decide +kernel
theorem dX6_wouldTake_13 : decode cX6_wouldTake 13 = .ok (.ireturn, 1) := by decide +kernel
theorem dX6_wouldTake_14 : decode cX6_wouldTake 14 = .ok (.aload_n 0, 1) := by decide +kernel
theorem dX6_wouldTake_15 : decode cX6_wouldTake 15 = .ok (.invokevirtual 184, 3) := by decide +kernel
theorem dX6_wouldTake_18 : decode cX6_wouldTake 18 = .ok (.aload_n 0, 1) := by decide +kernel
theorem dX6_wouldTake_19 : decode cX6_wouldTake 19 = .ok (.iload_n 1, 1) := by decide +kernel
theorem dX6_wouldTake_20 : decode cX6_wouldTake 20 = .ok (.invokevirtual 130, 3) := by decide +kernel
theorem dX6_wouldTake_23 : decode cX6_wouldTake 23 = .ok (.aload_n 0, 1) := by decide +kernel
theorem dX6_wouldTake_24 : decode cX6_wouldTake 24 = .ok (.iload_n 1, 1) := by decide +kernel
theorem dX6_wouldTake_25 : decode cX6_wouldTake 25 = .ok (.invokevirtual 78, 3) := by decide +kernel
theorem dX6_wouldTake_28 : decode cX6_wouldTake 28 = .ok (.istore_n 2, 1) := by decide +kernel
theorem dX6_wouldTake_29 : decode cX6_wouldTake 29 = .ok (.aload_n 0, 1) := by decide +kernel
theorem dX6_wouldTake_30 : decode cX6_wouldTake 30 = .ok (.invokevirtual 187, 3) := by decide +kernel
theorem dX6_wouldTake_33 : decode cX6_wouldTake 33 = .ok (.iload_n 2, 1) := by decide +kernel
theorem dX6_wouldTake_34 : decode cX6_wouldTake 34 = .ok (.ireturn, 1) := by decide +kernel
theorem dX6_isOne_0 : decode cX6_isOne 0 = .ok (.aload_n 0, 1) := by decide +kernel
theorem dX6_isOne_1 : decode cX6_isOne 1 = .ok (.iconst 0, 1) := by decide +kernel
theorem dX6_isOne_2 : decode cX6_isOne 2 = .ok (.putfield 41, 3) := by decide +kernel
theorem dX6_isOne_5 : decode cX6_isOne 5 = .ok (.iload_n 1, 1) := by decide +kernel
theorem dX6_isOne_6 : decode cX6_isOne 6 = .ok (.invokestatic 104, 3) := by decide +kernel
theorem dX6_isOne_9 : decode cX6_isOne 9 = .ok (.ifCond .ne 5, 3) := by decide +kernel
theorem dX6_isOne_12 : decode cX6_isOne 12 = .ok (.iconst (-1), 1) := by decide +kernel
theorem dX6_isOne_13 : decode cX6_isOne 13 = .ok (.ireturn, 1) := by decide +kernel
theorem dX6_isOne_14 : decode cX6_isOne 14 = .ok (.iload 4, 2) := by decide +kernel
theorem dX6_isOne_16 : decode cX6_isOne 16 = .ok (.iconst 2, 1) := by decide +kernel
theorem dX6_isOne_17 : decode cX6_isOne 17 = .ok (.if_icmp .eq 26, 3) := by decide +kernel
theorem dX6_isOne_20 : decode cX6_isOne 20 = .ok (.iload 4, 2) := by decide +kernel
theorem dX6_isOne_22 : decode cX6_isOne 22 = .ok (.iconst 4, 1) := by decide +kernel
theorem dX6_isOne_23 : decode cX6_isOne 23 = .ok (.if_icmp .eq 20, 3) := by decide +kernel
theorem dX6_isOne_26 : decode cX6_isOne 26 = .ok (.iload 4, 2) := by decide +kernel
theorem dX6_isOne_28 : decode cX6_isOne 28 = .ok (.bipush 8, 2) := by decide +kernel
theorem dX6_isOne_30 : decode cX6_isOne 30 = .ok (.if_icmp .eq 13, 3) := by decide +kernel
theorem dX6_isOne_33 : decode cX6_isOne 33 = .ok (.iload 4, 2) := by decide +kernel
theorem dX6_isOne_35 : decode cX6_isOne 35 = .ok (.bipush 16, 2) := by decide +kernel
theorem dX6_isOne_37 : decode cX6_isOne 37 = .ok (.if_icmp .eq 6, 3) := by decide +kernel
theorem dX6_isOne_40 : decode cX6_isOne 40 = .ok (.bipush (-2), 2) := by decide +kernel
theorem dX6_isOne_42 : decode cX6_isOne 42 = .ok (.ireturn, 1) := by decide +kernel
theorem dX6_isOne_43 : decode cX6_isOne 43 = .ok (.iload_n 2, 1) := by decide +kernel
theorem dX6_isOne_44 : decode cX6_isOne 44 = .ok (.iconst 0, 1) := by decide +kernel
theorem dX6_isOne_45 : decode cX6_isOne 45 = .ok (.bipush 16, 2) := by decide +kernel
theorem dX6_isOne_47 : decode cX6_isOne 47 = .ok (.iload 4, 2) := by decide +kernel
theorem dX6_isOne_49 : decode cX6_isOne 49 = .ok (.isub, 1) := by decide +kernel
theorem dX6_isOne_50 : decode cX6_isOne 50 = .ok (.invokestatic 45, 3) := by decide +kernel
theorem dX6_isOne_53 : decode cX6_isOne 53 = .ok (.ifCond .eq 30, 3) := by decide +kernel
theorem dX6_isOne_56 : decode cX6_isOne 56 = .ok (.iload_n 3, 1) := by decide +kernel
theorem dX6_isOne_57 : decode cX6_isOne 57 = .ok (.iconst 0, 1) := by decide +kernel
theorem dX6_isOne_58 : decode cX6_isOne 58 = .ok (.bipush 16, 2) := by decide +kernel
theorem dX6_isOne_60 : decode cX6_isOne 60 = .ok (.iload 4, 2) := by decide +kernel
theorem dX6_isOne_62 : decode cX6_isOne 62 = .ok (.isub, 1) := by decide +kernel
theorem dX6_isOne_63 : decode cX6_isOne 63 = .ok (.invokestatic 45, 3) := by decide +kernel
theorem dX6_isOne_66 : decode cX6_isOne 66 = .ok (.ifCond .eq 17, 3) := by decide +kernel
theorem dX6_isOne_69 : decode cX6_isOne 69 = .ok (.iload_n 2, 1) := by decide +kernel
theorem dX6_isOne_70 : decode cX6_isOne 70 = .ok (.iload 4, 2) := by decide +kernel
theorem dX6_isOne_72 : decode cX6_isOne 72 = .ok (.irem, 1) := by decide +kernel
theorem dX6_isOne_73 : decode cX6_isOne 73 = .ok (.ifCond .ne 10, 3) := by decide +kernel
theorem dX6_isOne_76 : decode cX6_isOne 76 = .ok (.iload_n 3, 1) := by decide +kernel
theorem dX6_isOne_77 : decode cX6_isOne 77 = .ok (.iload 4, 2) := by decide +kernel
theorem dX6_isOne_79 : decode cX6_isOne 79 = .ok (.irem, 1) := by decide +kernel
theorem dX6_isOne_80 : decode cX6_isOne 80 = .ok (.ifCond .eq 6, 3) := by decide +kernel
theorem dX6_isOne_83 : decode cX6_isOne 83 = .ok (.bipush (-2), 2) := by decide +kernel
theorem dX6_isOne_85 : decode cX6_isOne 85 = .ok (.ireturn, 1) := by decide +kernel
theorem dX6_isOne_86 : decode cX6_isOne 86 = .ok (.aload_n 0, 1) := by decide +kernel
theorem dX6_isOne_87 : decode cX6_isOne 87 = .ok (.iload_n 1, 1) := by decide +kernel
theorem dX6_isOne_88 : decode cX6_isOne 88 = .ok (.iload_n 2, 1) := by decide +kernel
theorem dX6_isOne_89 : decode cX6_isOne 89 = .ok (.iload_n 3, 1) := by decide +kernel
theorem dX6_isOne_90 : decode cX6_isOne 90 = .ok (.iload 4, 2) := by decide +kernel
theorem dX6_isOne_92 : decode cX6_isOne 92 = .ok (.invokevirtual 90, 3) := by decide +kernel
theorem dX6_isOne_95 : decode cX6_isOne 95 = .ok (.ireturn, 1) := by decide +kernel
theorem dX6_zerosBy_0 : decode cX6_zerosBy 0 = .ok (.iconst 0, 1) := by decide +kernel
theorem dX6_zerosBy_1 : decode cX6_zerosBy 1 = .ok (.istore 4, 2) := by decide +kernel
theorem dX6_zerosBy_3 : decode cX6_zerosBy 3 = .ok (.iconst 0, 1) := by decide +kernel
theorem dX6_zerosBy_4 : decode cX6_zerosBy 4 = .ok (.istore 5, 2) := by decide +kernel
theorem dX6_zerosBy_6 : decode cX6_zerosBy 6 = .ok (.iload 5, 2) := by decide +kernel
theorem dX6_zerosBy_8 : decode cX6_zerosBy 8 = .ok (.sipush 256, 3) := by decide +kernel
theorem dX6_zerosBy_11 : decode cX6_zerosBy 11 = .ok (.if_icmp .ge 55, 3) := by decide +kernel
theorem dX6_zerosBy_14 : decode cX6_zerosBy 14 = .ok (.iload 4, 2) := by decide +kernel
theorem dX6_zerosBy_16 : decode cX6_zerosBy 16 = .ok (.aload_n 0, 1) := by decide +kernel
theorem dX6_zerosBy_17 : decode cX6_zerosBy 17 = .ok (.iload_n 1, 1) := by decide +kernel
theorem dX6_zerosBy_18 : decode cX6_zerosBy 18 = .ok (.iload 5, 2) := by decide +kernel
theorem dX6_zerosBy_20 : decode cX6_zerosBy 20 = .ok (.bipush 16, 2) := by decide +kernel
theorem dX6_zerosBy_22 : decode cX6_zerosBy 22 = .ok (.idiv, 1) := by decide +kernel
theorem dX6_zerosBy_23 : decode cX6_zerosBy 23 = .ok (.iload 5, 2) := by decide +kernel
theorem dX6_zerosBy_25 : decode cX6_zerosBy 25 = .ok (.bipush 16, 2) := by decide +kernel
theorem dX6_zerosBy_27 : decode cX6_zerosBy 27 = .ok (.irem, 1) := by decide +kernel
theorem dX6_zerosBy_28 : decode cX6_zerosBy 28 = .ok (.invokevirtual 81, 3) := by decide +kernel
theorem dX6_zerosBy_31 : decode cX6_zerosBy 31 = .ok (.iload_n 3, 1) := by decide +kernel
theorem dX6_zerosBy_32 : decode cX6_zerosBy 32 = .ok (.aload_n 0, 1) := by decide +kernel
theorem dX6_zerosBy_33 : decode cX6_zerosBy 33 = .ok (.iload_n 2, 1) := by decide +kernel
theorem dX6_zerosBy_34 : decode cX6_zerosBy 34 = .ok (.iload 5, 2) := by decide +kernel
theorem dX6_zerosBy_36 : decode cX6_zerosBy 36 = .ok (.bipush 16, 2) := by decide +kernel
theorem dX6_zerosBy_38 : decode cX6_zerosBy 38 = .ok (.idiv, 1) := by decide +kernel
theorem dX6_zerosBy_39 : decode cX6_zerosBy 39 = .ok (.iload 5, 2) := by decide +kernel
theorem dX6_zerosBy_41 : decode cX6_zerosBy 41 = .ok (.bipush 16, 2) := by decide +kernel
theorem dX6_zerosBy_43 : decode cX6_zerosBy 43 = .ok (.irem, 1) := by decide +kernel
theorem dX6_zerosBy_44 : decode cX6_zerosBy 44 = .ok (.invokevirtual 81, 3) := by decide +kernel
theorem dX6_zerosBy_47 : decode cX6_zerosBy 47 = .ok (.imul, 1) := by decide +kernel
theorem dX6_zerosBy_48 : decode cX6_zerosBy 48 = .ok (.iadd, 1) := by decide +kernel
theorem dX6_zerosBy_49 : decode cX6_zerosBy 49 = .ok (.ifCond .ne 7, 3) := by decide +kernel
theorem dX6_zerosBy_52 : decode cX6_zerosBy 52 = .ok (.iconst 1, 1) := by decide +kernel
theorem dX6_zerosBy_53 : decode cX6_zerosBy 53 = .ok (.goto 4, 3) := by decide +kernel
theorem dX6_zerosBy_56 : decode cX6_zerosBy 56 = .ok (.iconst 0, 1) := by decide +kernel
theorem dX6_zerosBy_57 : decode cX6_zerosBy 57 = .ok (.iadd, 1) := by decide +kernel
theorem dX6_zerosBy_58 : decode cX6_zerosBy 58 = .ok (.istore 4, 2) := by decide +kernel
theorem dX6_zerosBy_60 : decode cX6_zerosBy 60 = .ok (.iinc 5 1, 3) := by decide +kernel
theorem dX6_zerosBy_63 : decode cX6_zerosBy 63 = .ok (.goto (-57), 3) := by decide +kernel
theorem dX6_zerosBy_66 : decode cX6_zerosBy 66 = .ok (.iload 4, 2) := by decide +kernel
theorem dX6_zerosBy_68 : decode cX6_zerosBy 68 = .ok (.ireturn, 1) := by decide +kernel
theorem dX6_bestTimes_0 : decode cX6_bestTimes 0 = .ok (.aload_n 0, 1) := by decide +kernel
theorem dX6_bestTimes_1 : decode cX6_bestTimes 1 = .ok (.iconst 0, 1) := by decide +kernel
theorem dX6_bestTimes_2 : decode cX6_bestTimes 2 = .ok (.putfield 41, 3) := by decide +kernel
theorem dX6_bestTimes_5 : decode cX6_bestTimes 5 = .ok (.iload_n 1, 1) := by decide +kernel
theorem dX6_bestTimes_6 : decode cX6_bestTimes 6 = .ok (.invokestatic 104, 3) := by decide +kernel
theorem dX6_bestTimes_9 : decode cX6_bestTimes 9 = .ok (.ifCond .eq 10, 3) := by decide +kernel
theorem dX6_bestTimes_12 : decode cX6_bestTimes 12 = .ok (.iload_n 2, 1) := by decide +kernel
theorem dX6_bestTimes_13 : decode cX6_bestTimes 13 = .ok (.invokestatic 104, 3) := by decide +kernel
theorem dX6_bestTimes_16 : decode cX6_bestTimes 16 = .ok (.ifCond .ne 5, 3) := by decide +kernel
theorem dX6_bestTimes_19 : decode cX6_bestTimes 19 = .ok (.iconst (-1), 1) := by decide +kernel
theorem dX6_bestTimes_20 : decode cX6_bestTimes 20 = .ok (.ireturn, 1) := by decide +kernel
theorem dX6_bestTimes_21 : decode cX6_bestTimes 21 = .ok (.iload_n 3, 1) := by decide +kernel
theorem dX6_bestTimes_22 : decode cX6_bestTimes 22 = .ok (.iconst 0, 1) := by decide +kernel
theorem dX6_bestTimes_23 : decode cX6_bestTimes 23 = .ok (.iconst 1, 1) := by decide +kernel
theorem dX6_bestTimes_24 : decode cX6_bestTimes 24 = .ok (.invokestatic 45, 3) := by decide +kernel
theorem dX6_bestTimes_27 : decode cX6_bestTimes 27 = .ok (.ifCond .eq 8, 3) := by decide +kernel
theorem dX6_bestTimes_30 : decode cX6_bestTimes 30 = .ok (.iload_n 1, 1) := by decide +kernel
theorem dX6_bestTimes_31 : decode cX6_bestTimes 31 = .ok (.iload_n 2, 1) := by decide +kernel
theorem dX6_bestTimes_32 : decode cX6_bestTimes 32 = .ok (.if_icmp .ne 6, 3) := by decide +kernel
theorem dX6_bestTimes_35 : decode cX6_bestTimes 35 = .ok (.bipush (-2), 2) := by decide +kernel
theorem dX6_bestTimes_37 : decode cX6_bestTimes 37 = .ok (.ireturn, 1) := by decide +kernel
theorem dX6_bestTimes_38 : decode cX6_bestTimes 38 = .ok (.iconst 0, 1) := by decide +kernel
theorem dX6_bestTimes_39 : decode cX6_bestTimes 39 = .ok (.istore 4, 2) := by decide +kernel
theorem dX6_bestTimes_41 : decode cX6_bestTimes 41 = .ok (.iconst (-1), 1) := by decide +kernel
theorem dX6_bestTimes_42 : decode cX6_bestTimes 42 = .ok (.istore 5, 2) := by decide +kernel
theorem dX6_bestTimes_44 : decode cX6_bestTimes 44 = .ok (.bipush (-99), 2) := by decide +kernel
theorem dX6_bestTimes_46 : decode cX6_bestTimes 46 = .ok (.istore 6, 2) := by decide +kernel
theorem dX6_bestTimes_48 : decode cX6_bestTimes 48 = .ok (.iload 6, 2) := by decide +kernel
theorem dX6_bestTimes_50 : decode cX6_bestTimes 50 = .ok (.bipush 100, 2) := by decide +kernel
theorem dX6_bestTimes_52 : decode cX6_bestTimes 52 = .ok (.if_icmp .ge 60, 3) := by decide +kernel
theorem dX6_bestTimes_55 : decode cX6_bestTimes 55 = .ok (.iload 6, 2) := by decide +kernel
theorem dX6_bestTimes_57 : decode cX6_bestTimes 57 = .ok (.ifCond .ne 7, 3) := by decide +kernel
theorem dX6_bestTimes_60 : decode cX6_bestTimes 60 = .ok (.iconst (-1), 1) := by decide +kernel
theorem dX6_bestTimes_61 : decode cX6_bestTimes 61 = .ok (.goto 11, 3) := by decide +kernel
theorem dX6_bestTimes_64 : decode cX6_bestTimes 64 = .ok (.aload_n 0, 1) := by decide +kernel
theorem dX6_bestTimes_65 : decode cX6_bestTimes 65 = .ok (.iload_n 1, 1) := by decide +kernel
theorem dX6_bestTimes_66 : decode cX6_bestTimes 66 = .ok (.iload_n 2, 1) := by decide +kernel
theorem dX6_bestTimes_67 : decode cX6_bestTimes 67 = .ok (.iload 6, 2) := by decide +kernel
theorem dX6_bestTimes_69 : decode cX6_bestTimes 69 = .ok (.invokevirtual 190, 3) := by decide +kernel
theorem dX6_bestTimes_72 : decode cX6_bestTimes 72 = .ok (.istore 7, 2) := by decide +kernel
theorem dX6_bestTimes_74 : decode cX6_bestTimes 74 = .ok (.iload 7, 2) := by decide +kernel
theorem dX6_bestTimes_76 : decode cX6_bestTimes 76 = .ok (.iload 5, 2) := by decide +kernel
theorem dX6_bestTimes_78 : decode cX6_bestTimes 78 = .ok (.if_icmp .le 8, 3) := by decide +kernel
theorem dX6_bestTimes_81 : decode cX6_bestTimes 81 = .ok (.iload 6, 2) := by decide +kernel
theorem dX6_bestTimes_83 : decode cX6_bestTimes 83 = .ok (.goto 5, 3) := by decide +kernel
theorem dX6_bestTimes_86 : decode cX6_bestTimes 86 = .ok (.iload 4, 2) := by decide +kernel
theorem dX6_bestTimes_88 : decode cX6_bestTimes 88 = .ok (.istore 4, 2) := by decide +kernel
theorem dX6_bestTimes_90 : decode cX6_bestTimes 90 = .ok (.iload 7, 2) := by decide +kernel
theorem dX6_bestTimes_92 : decode cX6_bestTimes 92 = .ok (.iload 5, 2) := by decide +kernel
theorem dX6_bestTimes_94 : decode cX6_bestTimes 94 = .ok (.if_icmp .le 8, 3) := by decide +kernel
theorem dX6_bestTimes_97 : decode cX6_bestTimes 97 = .ok (.iload 7, 2) := by decide +kernel
theorem dX6_bestTimes_99 : decode cX6_bestTimes 99 = .ok (.goto 5, 3) := by decide +kernel
theorem dX6_bestTimes_102 : decode cX6_bestTimes 102 = .ok (.iload 5, 2) := by decide +kernel
theorem dX6_bestTimes_104 : decode cX6_bestTimes 104 = .ok (.istore 5, 2) := by decide +kernel
theorem dX6_bestTimes_106 : decode cX6_bestTimes 106 = .ok (.iinc 6 1, 3) := by decide +kernel
theorem dX6_bestTimes_109 : decode cX6_bestTimes 109 = .ok (.goto (-61), 3) := by decide +kernel
theorem dX6_bestTimes_112 : decode cX6_bestTimes 112 = .ok (.iload_n 3, 1) := by decide +kernel
theorem dX6_bestTimes_113 : decode cX6_bestTimes 113 = .ok (.ifCond .ne 11, 3) := by decide +kernel
theorem dX6_bestTimes_116 : decode cX6_bestTimes 116 = .ok (.iload 4, 2) := by decide +kernel
theorem dX6_bestTimes_118 : decode cX6_bestTimes 118 = .ok (.bipush 100, 2) := by decide +kernel
theorem dX6_bestTimes_120 : decode cX6_bestTimes 120 = .ok (.iadd, 1) := by decide +kernel
theorem dX6_bestTimes_121 : decode cX6_bestTimes 121 = .ok (.goto 5, 3) := by decide +kernel
theorem dX6_bestTimes_124 : decode cX6_bestTimes 124 = .ok (.iload 5, 2) := by decide +kernel
theorem dX6_bestTimes_126 : decode cX6_bestTimes 126 = .ok (.ireturn, 1) := by decide +kernel
theorem dX6_put_0 : decode cX6_put 0 = .ok (.aload_n 0, 1) := by decide +kernel
theorem dX6_put_1 : decode cX6_put 1 = .ok (.iconst 0, 1) := by decide +kernel
theorem dX6_put_2 : decode cX6_put 2 = .ok (.putfield 41, 3) := by decide +kernel
theorem dX6_put_5 : decode cX6_put 5 = .ok (.iconst 0, 1) := by decide +kernel
theorem dX6_put_6 : decode cX6_put 6 = .ok (.istore_n 3, 1) := by decide +kernel
theorem dX6_put_7 : decode cX6_put 7 = .ok (.lload_n 1, 1) := by decide +kernel
theorem dX6_put_8 : decode cX6_put 8 = .ok (.lstore 4, 2) := by decide +kernel
theorem dX6_put_10 : decode cX6_put 10 = .ok (.iconst 1, 1) := by decide +kernel
theorem dX6_put_11 : decode cX6_put 11 = .ok (.istore 6, 2) := by decide +kernel
theorem dX6_put_13 : decode cX6_put 13 = .ok (.iload_n 3, 1) := by decide +kernel
theorem dX6_put_14 : decode cX6_put 14 = .ok (.bipush 8, 2) := by decide +kernel
theorem dX6_put_16 : decode cX6_put 16 = .ok (.if_icmp .ge 56, 3) := by decide +kernel
theorem dX6_put_19 : decode cX6_put 19 = .ok (.lload 4, 2) := by decide +kernel
theorem dX6_put_21 : decode cX6_put 21 = .ok (.ldc2_w 193, 3) := by decide +kernel
theorem dX6_put_24 : decode cX6_put 24 = .ok (.land, 1) := by decide +kernel
theorem dX6_put_25 : decode cX6_put 25 = .ok (.lconst 0, 1) := by decide +kernel
theorem dX6_put_26 : decode cX6_put 26 = .ok (.lcmp, 1) := by decide +kernel
theorem dX6_put_27 : decode cX6_put 27 = .ok (.ifCond .eq 45, 3) := by decide +kernel
theorem dX6_put_30 : decode cX6_put 30 = .ok (.iload 6, 2) := by decide +kernel
theorem dX6_put_32 : decode cX6_put 32 = .ok (.ifCond .eq 24, 3) := by decide +kernel
theorem dX6_put_35 : decode cX6_put 35 = .ok (.lload 4, 2) := by decide +kernel
theorem dX6_put_37 : decode cX6_put 37 = .ok (.ldc2_w 193, 3) := by decide +kernel
theorem dX6_put_40 : decode cX6_put 40 = .ok (.land, 1) := by decide +kernel
theorem dX6_put_41 : decode cX6_put 41 = .ok (.l2i, 1) := by decide +kernel
theorem dX6_put_42 : decode cX6_put 42 = .ok (.bipush 33, 2) := by decide +kernel
theorem dX6_put_44 : decode cX6_put 44 = .ok (.bipush 126, 2) := by decide +kernel
theorem dX6_put_46 : decode cX6_put 46 = .ok (.invokestatic 45, 3) := by decide +kernel
theorem dX6_put_49 : decode cX6_put 49 = .ok (.ifCond .eq 7, 3) := by decide +kernel
theorem dX6_put_52 : decode cX6_put 52 = .ok (.iconst 1, 1) := by decide +kernel
theorem dX6_put_53 : decode cX6_put 53 = .ok (.goto 4, 3) := by decide +kernel
theorem dX6_put_56 : decode cX6_put 56 = .ok (.iconst 0, 1) := by decide +kernel
theorem dX6_put_57 : decode cX6_put 57 = .ok (.istore 6, 2) := by decide +kernel
theorem dX6_put_59 : decode cX6_put 59 = .ok (.lload 4, 2) := by decide +kernel
theorem dX6_put_61 : decode cX6_put 61 = .ok (.bipush 8, 2) := by decide +kernel
theorem dX6_put_63 : decode cX6_put 63 = .ok (.lushr, 1) := by decide +kernel
theorem dX6_put_64 : decode cX6_put 64 = .ok (.lstore 4, 2) := by decide +kernel
theorem dX6_put_66 : decode cX6_put 66 = .ok (.iinc 3 1, 3) := by decide +kernel
theorem dX6_put_69 : decode cX6_put 69 = .ok (.goto (-56), 3) := by decide +kernel
theorem dX6_put_72 : decode cX6_put 72 = .ok (.iload_n 3, 1) := by decide +kernel
theorem dX6_put_73 : decode cX6_put 73 = .ok (.ifCond .eq 15, 3) := by decide +kernel
theorem dX6_put_76 : decode cX6_put 76 = .ok (.iload 6, 2) := by decide +kernel
theorem dX6_put_78 : decode cX6_put 78 = .ok (.ifCond .eq 10, 3) := by decide +kernel
theorem dX6_put_81 : decode cX6_put 81 = .ok (.lload 4, 2) := by decide +kernel
theorem dX6_put_83 : decode cX6_put 83 = .ok (.lconst 0, 1) := by decide +kernel
theorem dX6_put_84 : decode cX6_put 84 = .ok (.lcmp, 1) := by decide +kernel
theorem dX6_put_85 : decode cX6_put 85 = .ok (.ifCond .eq 6, 3) := by decide +kernel
theorem dX6_put_88 : decode cX6_put 88 = .ok (.bipush (-2), 2) := by decide +kernel
theorem dX6_put_90 : decode cX6_put 90 = .ok (.ireturn, 1) := by decide +kernel
theorem dX6_put_91 : decode cX6_put 91 = .ok (.aload_n 0, 1) := by decide +kernel
theorem dX6_put_92 : decode cX6_put 92 = .ok (.getfield 115, 3) := by decide +kernel
theorem dX6_put_95 : decode cX6_put 95 = .ok (.iload_n 3, 1) := by decide +kernel
theorem dX6_put_96 : decode cX6_put 96 = .ok (.iadd, 1) := by decide +kernel
theorem dX6_put_97 : decode cX6_put 97 = .ok (.bipush 80, 2) := by decide +kernel
theorem dX6_put_99 : decode cX6_put 99 = .ok (.if_icmp .le 6, 3) := by decide +kernel
theorem dX6_put_102 : decode cX6_put 102 = .ok (.bipush (-4), 2) := by decide +kernel
theorem dX6_put_104 : decode cX6_put 104 = .ok (.ireturn, 1) := by decide +kernel
theorem dX6_put_105 : decode cX6_put 105 = .ok (.iconst 0, 1) := by decide +kernel
theorem dX6_put_106 : decode cX6_put 106 = .ok (.istore 7, 2) := by decide +kernel
theorem dX6_put_108 : decode cX6_put 108 = .ok (.iload 7, 2) := by decide +kernel
theorem dX6_put_110 : decode cX6_put 110 = .ok (.iload_n 3, 1) := by decide +kernel
theorem dX6_put_111 : decode cX6_put 111 = .ok (.if_icmp .ge 37, 3) := by decide +kernel
theorem dX6_put_114 : decode cX6_put 114 = .ok (.aload_n 0, 1) := by decide +kernel
theorem dX6_put_115 : decode cX6_put 115 = .ok (.getfield 26, 3) := by decide +kernel
theorem dX6_put_118 : decode cX6_put 118 = .ok (.aload_n 0, 1) := by decide +kernel
theorem dX6_put_119 : decode cX6_put 119 = .ok (.getfield 115, 3) := by decide +kernel
theorem dX6_put_122 : decode cX6_put 122 = .ok (.iload 7, 2) := by decide +kernel
theorem dX6_put_124 : decode cX6_put 124 = .ok (.iadd, 1) := by decide +kernel
theorem dX6_put_125 : decode cX6_put 125 = .ok (.lload_n 1, 1) := by decide +kernel
theorem dX6_put_126 : decode cX6_put 126 = .ok (.bipush 8, 2) := by decide +kernel
theorem dX6_put_128 : decode cX6_put 128 = .ok (.iload_n 3, 1) := by decide +kernel
theorem dX6_put_129 : decode cX6_put 129 = .ok (.iconst 1, 1) := by decide +kernel
theorem dX6_put_130 : decode cX6_put 130 = .ok (.isub, 1) := by decide +kernel
theorem dX6_put_131 : decode cX6_put 131 = .ok (.iload 7, 2) := by decide +kernel
theorem dX6_put_133 : decode cX6_put 133 = .ok (.isub, 1) := by decide +kernel
theorem dX6_put_134 : decode cX6_put 134 = .ok (.imul, 1) := by decide +kernel
theorem dX6_put_135 : decode cX6_put 135 = .ok (.lushr, 1) := by decide +kernel
theorem dX6_put_136 : decode cX6_put 136 = .ok (.ldc2_w 193, 3) := by decide +kernel
theorem dX6_put_139 : decode cX6_put 139 = .ok (.land, 1) := by decide +kernel
theorem dX6_put_140 : decode cX6_put 140 = .ok (.l2i, 1) := by decide +kernel
theorem dX6_put_141 : decode cX6_put 141 = .ok (.iastore, 1) := by decide +kernel
theorem dX6_put_142 : decode cX6_put 142 = .ok (.iinc 7 1, 3) := by decide +kernel
theorem dX6_put_145 : decode cX6_put 145 = .ok (.goto (-37), 3) := by decide +kernel
theorem dX6_put_148 : decode cX6_put 148 = .ok (.aload_n 0, 1) := by decide +kernel
theorem dX6_put_149 : decode cX6_put 149 = .ok (.dup, 1) := by decide +kernel
theorem dX6_put_150 : decode cX6_put 150 = .ok (.getfield 115, 3) := by decide +kernel
theorem dX6_put_153 : decode cX6_put 153 = .ok (.iload_n 3, 1) := by decide +kernel
theorem dX6_put_154 : decode cX6_put 154 = .ok (.iadd, 1) := by decide +kernel
theorem dX6_put_155 : decode cX6_put 155 = .ok (.putfield 115, 3) := by decide +kernel
theorem dX6_put_158 : decode cX6_put 158 = .ok (.aload_n 0, 1) := by decide +kernel
theorem dX6_put_159 : decode cX6_put 159 = .ok (.getfield 115, 3) := by decide +kernel
theorem dX6_put_162 : decode cX6_put 162 = .ok (.ireturn, 1) := by decide +kernel
theorem dX6_wipe_0 : decode cX6_wipe 0 = .ok (.aload_n 0, 1) := by decide +kernel
theorem dX6_wipe_1 : decode cX6_wipe 1 = .ok (.iconst 0, 1) := by decide +kernel
theorem dX6_wipe_2 : decode cX6_wipe 2 = .ok (.putfield 41, 3) := by decide +kernel
theorem dX6_wipe_5 : decode cX6_wipe 5 = .ok (.aload_n 0, 1) := by decide +kernel
theorem dX6_wipe_6 : decode cX6_wipe 6 = .ok (.getfield 115, 3) := by decide +kernel
theorem dX6_wipe_9 : decode cX6_wipe 9 = .ok (.istore_n 1, 1) := by decide +kernel
theorem dX6_wipe_10 : decode cX6_wipe 10 = .ok (.aload_n 0, 1) := by decide +kernel
theorem dX6_wipe_11 : decode cX6_wipe 11 = .ok (.iconst 0, 1) := by decide +kernel
theorem dX6_wipe_12 : decode cX6_wipe 12 = .ok (.putfield 115, 3) := by decide +kernel
theorem dX6_wipe_15 : decode cX6_wipe 15 = .ok (.iload_n 1, 1) := by decide +kernel
theorem dX6_wipe_16 : decode cX6_wipe 16 = .ok (.ireturn, 1) := by decide +kernel
theorem dX6_letter_0 : decode cX6_letter 0 = .ok (.aload_n 0, 1) := by decide +kernel
theorem dX6_letter_1 : decode cX6_letter 1 = .ok (.getfield 195, 3) := by decide +kernel
theorem dX6_letter_4 : decode cX6_letter 4 = .ok (.aload_n 0, 1) := by decide +kernel
theorem dX6_letter_5 : decode cX6_letter 5 = .ok (.getfield 115, 3) := by decide +kernel
theorem dX6_letter_8 : decode cX6_letter 8 = .ok (.if_icmp .ge 15, 3) := by decide +kernel
theorem dX6_letter_11 : decode cX6_letter 11 = .ok (.aload_n 0, 1) := by decide +kernel
theorem dX6_letter_12 : decode cX6_letter 12 = .ok (.getfield 26, 3) := by decide +kernel
theorem dX6_letter_15 : decode cX6_letter 15 = .ok (.aload_n 0, 1) := by decide +kernel
theorem dX6_letter_16 : decode cX6_letter 16 = .ok (.getfield 195, 3) := by decide +kernel
theorem dX6_letter_19 : decode cX6_letter 19 = .ok (.iaload, 1) := by decide +kernel
theorem dX6_letter_20 : decode cX6_letter 20 = .ok (.goto 4, 3) := by decide +kernel
theorem dX6_letter_23 : decode cX6_letter 23 = .ok (.iconst 0, 1) := by decide +kernel
theorem dX6_letter_24 : decode cX6_letter 24 = .ok (.ireturn, 1) := by decide +kernel
theorem dX6_wants_0 : decode cX6_wants 0 = .ok (.aload_n 0, 1) := by decide +kernel
theorem dX6_wants_1 : decode cX6_wants 1 = .ok (.aload_n 0, 1) := by decide +kernel
theorem dX6_wants_2 : decode cX6_wants 2 = .ok (.getfield 198, 3) := by decide +kernel
theorem dX6_wants_5 : decode cX6_wants 5 = .ok (.ifCond .eq 15, 3) := by decide +kernel
theorem dX6_wants_8 : decode cX6_wants 8 = .ok (.aload_n 0, 1) := by decide +kernel
theorem dX6_wants_9 : decode cX6_wants 9 = .ok (.invokevirtual 202, 3) := by decide +kernel
theorem dX6_wants_12 : decode cX6_wants 12 = .ok (.iload_n 1, 1) := by decide +kernel
theorem dX6_wants_13 : decode cX6_wants 13 = .ok (.if_icmp .ne 7, 3) := by decide +kernel
theorem dX6_wants_16 : decode cX6_wants 16 = .ok (.iconst 1, 1) := by decide +kernel
theorem dX6_wants_17 : decode cX6_wants 17 = .ok (.goto 4, 3) := by decide +kernel
theorem dX6_wants_20 : decode cX6_wants 20 = .ok (.iconst 0, 1) := by decide +kernel
theorem dX6_wants_21 : decode cX6_wants 21 = .ok (.putfield 198, 3) := by decide +kernel
theorem dX6_wants_24 : decode cX6_wants 24 = .ok (.aload_n 0, 1) := by decide +kernel
theorem dX6_wants_25 : decode cX6_wants 25 = .ok (.dup, 1) := by decide +kernel
theorem dX6_wants_26 : decode cX6_wants 26 = .ok (.getfield 195, 3) := by decide +kernel
theorem dX6_wants_29 : decode cX6_wants 29 = .ok (.aload_n 0, 1) := by decide +kernel
theorem dX6_wants_30 : decode cX6_wants 30 = .ok (.getfield 198, 3) := by decide +kernel
theorem dX6_wants_33 : decode cX6_wants 33 = .ok (.ifCond .eq 7, 3) := by decide +kernel
theorem dX6_wants_36 : decode cX6_wants 36 = .ok (.iconst 1, 1) := by decide +kernel
theorem dX6_wants_37 : decode cX6_wants 37 = .ok (.goto 4, 3) := by decide +kernel
theorem dX6_wants_40 : decode cX6_wants 40 = .ok (.iconst 0, 1) := by decide +kernel
theorem dX6_wants_41 : decode cX6_wants 41 = .ok (.iadd, 1) := by decide +kernel
theorem dX6_wants_42 : decode cX6_wants 42 = .ok (.putfield 195, 3) := by decide +kernel
theorem dX6_wants_45 : decode cX6_wants 45 = .ok (.return_, 1) := by decide +kernel
theorem dX6_number_0 : decode cX6_number 0 = .ok (.aload_n 0, 1) := by decide +kernel
theorem dX6_number_1 : decode cX6_number 1 = .ok (.aload_n 0, 1) := by decide +kernel
theorem dX6_number_2 : decode cX6_number 2 = .ok (.getfield 198, 3) := by decide +kernel
theorem dX6_number_5 : decode cX6_number 5 = .ok (.ifCond .eq 21, 3) := by decide +kernel
theorem dX6_number_8 : decode cX6_number 8 = .ok (.aload_n 0, 1) := by decide +kernel
theorem dX6_number_9 : decode cX6_number 9 = .ok (.invokevirtual 202, 3) := by decide +kernel
theorem dX6_number_12 : decode cX6_number 12 = .ok (.bipush 48, 2) := by decide +kernel
theorem dX6_number_14 : decode cX6_number 14 = .ok (.bipush 57, 2) := by decide +kernel
theorem dX6_number_16 : decode cX6_number 16 = .ok (.invokestatic 45, 3) := by decide +kernel
theorem dX6_number_19 : decode cX6_number 19 = .ok (.ifCond .eq 7, 3) := by decide +kernel
theorem dX6_number_22 : decode cX6_number 22 = .ok (.iconst 1, 1) := by decide +kernel
theorem dX6_number_23 : decode cX6_number 23 = .ok (.goto 4, 3) := by decide +kernel
theorem dX6_number_26 : decode cX6_number 26 = .ok (.iconst 0, 1) := by decide +kernel
theorem dX6_number_27 : decode cX6_number 27 = .ok (.putfield 198, 3) := by decide +kernel
theorem dX6_number_30 : decode cX6_number 30 = .ok (.aload_n 0, 1) := by decide +kernel
theorem dX6_number_31 : decode cX6_number 31 = .ok (.invokevirtual 202, 3) := by decide +kernel
theorem dX6_number_34 : decode cX6_number 34 = .ok (.bipush 48, 2) := by decide +kernel
theorem dX6_number_36 : decode cX6_number 36 = .ok (.isub, 1) := by decide +kernel
theorem dX6_number_37 : decode cX6_number 37 = .ok (.istore_n 1, 1) := by decide +kernel
theorem dX6_number_38 : decode cX6_number 38 = .ok (.aload_n 0, 1) := by decide +kernel
theorem dX6_number_39 : decode cX6_number 39 = .ok (.dup, 1) := by decide +kernel
theorem dX6_number_40 : decode cX6_number 40 = .ok (.getfield 195, 3) := by decide +kernel
theorem dX6_number_43 : decode cX6_number 43 = .ok (.aload_n 0, 1) := by decide +kernel
theorem dX6_number_44 : decode cX6_number 44 = .ok (.getfield 198, 3) := by decide +kernel
theorem dX6_number_47 : decode cX6_number 47 = .ok (.ifCond .eq 7, 3) := by decide +kernel
theorem dX6_number_50 : decode cX6_number 50 = .ok (.iconst 1, 1) := by decide +kernel
theorem dX6_number_51 : decode cX6_number 51 = .ok (.goto 4, 3) := by decide +kernel
theorem dX6_number_54 : decode cX6_number 54 = .ok (.iconst 0, 1) := by decide +kernel
theorem dX6_number_55 : decode cX6_number 55 = .ok (.iadd, 1) := by decide +kernel
theorem dX6_number_56 : decode cX6_number 56 = .ok (.putfield 195, 3) := by decide +kernel
theorem dX6_number_59 : decode cX6_number 59 = .ok (.aload_n 0, 1) := by decide +kernel
theorem dX6_number_60 : decode cX6_number 60 = .ok (.getfield 198, 3) := by decide +kernel
theorem dX6_number_63 : decode cX6_number 63 = .ok (.ifCond .eq 74, 3) := by decide +kernel
theorem dX6_number_66 : decode cX6_number 66 = .ok (.iload_n 1, 1) := by decide +kernel
theorem dX6_number_67 : decode cX6_number 67 = .ok (.ifCond .le 70, 3) := by decide +kernel
theorem dX6_number_70 : decode cX6_number 70 = .ok (.aload_n 0, 1) := by decide +kernel
theorem dX6_number_71 : decode cX6_number 71 = .ok (.invokevirtual 202, 3) := by decide +kernel
theorem dX6_number_74 : decode cX6_number 74 = .ok (.bipush 48, 2) := by decide +kernel
theorem dX6_number_76 : decode cX6_number 76 = .ok (.bipush 57, 2) := by decide +kernel
theorem dX6_number_78 : decode cX6_number 78 = .ok (.invokestatic 45, 3) := by decide +kernel
theorem dX6_number_81 : decode cX6_number 81 = .ok (.ifCond .eq 56, 3) := by decide +kernel
theorem dX6_number_84 : decode cX6_number 84 = .ok (.bipush 10, 2) := by decide +kernel
theorem dX6_number_86 : decode cX6_number 86 = .ok (.iload_n 1, 1) := by decide +kernel
theorem dX6_number_87 : decode cX6_number 87 = .ok (.imul, 1) := by decide +kernel
theorem dX6_number_88 : decode cX6_number 88 = .ok (.aload_n 0, 1) := by decide +kernel
theorem dX6_number_89 : decode cX6_number 89 = .ok (.invokevirtual 202, 3) := by decide +kernel
theorem dX6_number_92 : decode cX6_number 92 = .ok (.iadd, 1) := by decide +kernel
theorem dX6_number_93 : decode cX6_number 93 = .ok (.bipush 48, 2) := by decide +kernel
theorem dX6_number_95 : decode cX6_number 95 = .ok (.isub, 1) := by decide +kernel
theorem dX6_number_96 : decode cX6_number 96 = .ok (.istore_n 1, 1) := by decide +kernel
theorem dX6_number_97 : decode cX6_number 97 = .ok (.aload_n 0, 1) := by decide +kernel
theorem dX6_number_98 : decode cX6_number 98 = .ok (.iload_n 1, 1) := by decide +kernel
theorem dX6_number_99 : decode cX6_number 99 = .ok (.sipush 999, 3) := by decide +kernel
theorem dX6_number_102 : decode cX6_number 102 = .ok (.if_icmp .gt 7, 3) := by decide +kernel
theorem dX6_number_105 : decode cX6_number 105 = .ok (.iconst 1, 1) := by decide +kernel
theorem dX6_number_106 : decode cX6_number 106 = .ok (.goto 4, 3) := by decide +kernel
theorem dX6_number_109 : decode cX6_number 109 = .ok (.iconst 0, 1) := by decide +kernel
theorem dX6_number_110 : decode cX6_number 110 = .ok (.putfield 198, 3) := by decide +kernel
theorem dX6_number_113 : decode cX6_number 113 = .ok (.aload_n 0, 1) := by decide +kernel
theorem dX6_number_114 : decode cX6_number 114 = .ok (.dup, 1) := by decide +kernel
theorem dX6_number_115 : decode cX6_number 115 = .ok (.getfield 195, 3) := by decide +kernel
theorem dX6_number_118 : decode cX6_number 118 = .ok (.aload_n 0, 1) := by decide +kernel
theorem dX6_number_119 : decode cX6_number 119 = .ok (.getfield 198, 3) := by decide +kernel
theorem dX6_number_122 : decode cX6_number 122 = .ok (.ifCond .eq 7, 3) := by decide +kernel
theorem dX6_number_125 : decode cX6_number 125 = .ok (.iconst 1, 1) := by decide +kernel
theorem dX6_number_126 : decode cX6_number 126 = .ok (.goto 4, 3) := by decide +kernel
theorem dX6_number_129 : decode cX6_number 129 = .ok (.iconst 0, 1) := by decide +kernel
theorem dX6_number_130 : decode cX6_number 130 = .ok (.iadd, 1) := by decide +kernel
theorem dX6_number_131 : decode cX6_number 131 = .ok (.putfield 195, 3) := by decide +kernel
theorem dX6_number_134 : decode cX6_number 134 = .ok (.goto (-75), 3) := by decide +kernel
theorem dX6_number_137 : decode cX6_number 137 = .ok (.iload_n 1, 1) := by decide +kernel
theorem dX6_number_138 : decode cX6_number 138 = .ok (.ireturn, 1) := by decide +kernel
theorem dX6_value_0 : decode cX6_value 0 = .ok (.aload_n 0, 1) := by decide +kernel
theorem dX6_value_1 : decode cX6_value 1 = .ok (.getfield 198, 3) := by decide +kernel
theorem dX6_value_4 : decode cX6_value 4 = .ok (.ifCond .eq 16, 3) := by decide +kernel
theorem dX6_value_7 : decode cX6_value 7 = .ok (.aload_n 0, 1) := by decide +kernel
theorem dX6_value_8 : decode cX6_value 8 = .ok (.invokevirtual 202, 3) := by decide +kernel
theorem dX6_value_11 : decode cX6_value 11 = .ok (.bipush 45, 2) := by decide +kernel
theorem dX6_value_13 : decode cX6_value 13 = .ok (.if_icmp .ne 7, 3) := by decide +kernel
theorem dX6_value_16 : decode cX6_value 16 = .ok (.iconst 1, 1) := by decide +kernel
theorem dX6_value_17 : decode cX6_value 17 = .ok (.goto 4, 3) := by decide +kernel
theorem dX6_value_20 : decode cX6_value 20 = .ok (.iconst 0, 1) := by decide +kernel
theorem dX6_value_21 : decode cX6_value 21 = .ok (.istore_n 1, 1) := by decide +kernel
theorem dX6_value_22 : decode cX6_value 22 = .ok (.aload_n 0, 1) := by decide +kernel
theorem dX6_value_23 : decode cX6_value 23 = .ok (.dup, 1) := by decide +kernel
theorem dX6_value_24 : decode cX6_value 24 = .ok (.getfield 195, 3) := by decide +kernel
theorem dX6_value_27 : decode cX6_value 27 = .ok (.iload_n 1, 1) := by decide +kernel
theorem dX6_value_28 : decode cX6_value 28 = .ok (.ifCond .eq 7, 3) := by decide +kernel
theorem dX6_value_31 : decode cX6_value 31 = .ok (.iconst 1, 1) := by decide +kernel
theorem dX6_value_32 : decode cX6_value 32 = .ok (.goto 4, 3) := by decide +kernel
theorem dX6_value_35 : decode cX6_value 35 = .ok (.iconst 0, 1) := by decide +kernel
theorem dX6_value_36 : decode cX6_value 36 = .ok (.iadd, 1) := by decide +kernel
theorem dX6_value_37 : decode cX6_value 37 = .ok (.putfield 195, 3) := by decide +kernel
theorem dX6_value_40 : decode cX6_value 40 = .ok (.aload_n 0, 1) := by decide +kernel
theorem dX6_value_41 : decode cX6_value 41 = .ok (.invokevirtual 205, 3) := by decide +kernel
theorem dX6_value_44 : decode cX6_value 44 = .ok (.istore_n 2, 1) := by decide +kernel
theorem dX6_value_45 : decode cX6_value 45 = .ok (.iload_n 1, 1) := by decide +kernel
theorem dX6_value_46 : decode cX6_value 46 = .ok (.ifCond .eq 8, 3) := by decide +kernel
theorem dX6_value_49 : decode cX6_value 49 = .ok (.iload_n 2, 1) := by decide +kernel
theorem dX6_value_50 : decode cX6_value 50 = .ok (.ineg, 1) := by decide +kernel
theorem dX6_value_51 : decode cX6_value 51 = .ok (.goto 4, 3) := by decide +kernel
theorem dX6_value_54 : decode cX6_value 54 = .ok (.iload_n 2, 1) := by decide +kernel
theorem dX6_value_55 : decode cX6_value 55 = .ok (.ireturn, 1) := by decide +kernel
theorem dX6_readsValues_0 : decode cX6_readsValues 0 = .ok (.iconst 0, 1) := by decide +kernel
theorem dX6_readsValues_1 : decode cX6_readsValues 1 = .ok (.istore_n 2, 1) := by decide +kernel
theorem dX6_readsValues_2 : decode cX6_readsValues 2 = .ok (.aload_n 0, 1) := by decide +kernel
theorem dX6_readsValues_3 : decode cX6_readsValues 3 = .ok (.invokevirtual 208, 3) := by decide +kernel
theorem dX6_readsValues_6 : decode cX6_readsValues 6 = .ok (.istore_n 3, 1) := by decide +kernel
theorem dX6_readsValues_7 : decode cX6_readsValues 7 = .ok (.iconst 0, 1) := by decide +kernel
theorem dX6_readsValues_8 : decode cX6_readsValues 8 = .ok (.istore 4, 2) := by decide +kernel
theorem dX6_readsValues_10 : decode cX6_readsValues 10 = .ok (.iload 4, 2) := by decide +kernel
theorem dX6_readsValues_12 : decode cX6_readsValues 12 = .ok (.iload_n 1, 1) := by decide +kernel
theorem dX6_readsValues_13 : decode cX6_readsValues 13 = .ok (.if_icmp .ge 17, 3) := by decide +kernel
theorem dX6_readsValues_16 : decode cX6_readsValues 16 = .ok (.aload_n 0, 1) := by decide +kernel
theorem dX6_readsValues_17 : decode cX6_readsValues 17 = .ok (.getfield 32, 3) := by decide +kernel
theorem dX6_readsValues_20 : decode cX6_readsValues 20 = .ok (.iload 4, 2) := by decide +kernel
theorem dX6_readsValues_22 : decode cX6_readsValues 22 = .ok (.iload_n 3, 1) := by decide +kernel
theorem dX6_readsValues_23 : decode cX6_readsValues 23 = .ok (.iastore, 1) := by decide +kernel
theorem dX6_readsValues_24 : decode cX6_readsValues 24 = .ok (.iinc 4 1, 3) := by decide +kernel
theorem dX6_readsValues_27 : decode cX6_readsValues 27 = .ok (.goto (-17), 3) := by decide +kernel
theorem dX6_readsValues_30 : decode cX6_readsValues 30 = .ok (.aload_n 0, 1) := by decide +kernel
theorem dX6_readsValues_31 : decode cX6_readsValues 31 = .ok (.getfield 198, 3) := by decide +kernel
theorem dX6_readsValues_34 : decode cX6_readsValues 34 = .ok (.ifCond .eq 56, 3) := by decide +kernel
theorem dX6_readsValues_37 : decode cX6_readsValues 37 = .ok (.aload_n 0, 1) := by decide +kernel
theorem dX6_readsValues_38 : decode cX6_readsValues 38 = .ok (.invokevirtual 202, 3) := by decide +kernel
theorem dX6_readsValues_41 : decode cX6_readsValues 41 = .ok (.bipush 44, 2) := by decide +kernel
theorem dX6_readsValues_43 : decode cX6_readsValues 43 = .ok (.if_icmp .ne 47, 3) := by decide +kernel
theorem dX6_readsValues_46 : decode cX6_readsValues 46 = .ok (.aload_n 0, 1) := by decide +kernel
theorem dX6_readsValues_47 : decode cX6_readsValues 47 = .ok (.dup, 1) := by decide +kernel
theorem dX6_readsValues_48 : decode cX6_readsValues 48 = .ok (.getfield 195, 3) := by decide +kernel
theorem dX6_readsValues_51 : decode cX6_readsValues 51 = .ok (.iconst 1, 1) := by decide +kernel
theorem dX6_readsValues_52 : decode cX6_readsValues 52 = .ok (.iadd, 1) := by decide +kernel
theorem dX6_readsValues_53 : decode cX6_readsValues 53 = .ok (.putfield 195, 3) := by decide +kernel
theorem dX6_readsValues_56 : decode cX6_readsValues 56 = .ok (.iinc 2 1, 3) := by decide +kernel
theorem dX6_readsValues_59 : decode cX6_readsValues 59 = .ok (.aload_n 0, 1) := by decide +kernel
theorem dX6_readsValues_60 : decode cX6_readsValues 60 = .ok (.invokevirtual 208, 3) := by decide +kernel
theorem dX6_readsValues_63 : decode cX6_readsValues 63 = .ok (.istore_n 3, 1) := by decide +kernel
theorem dX6_readsValues_64 : decode cX6_readsValues 64 = .ok (.iload_n 2, 1) := by decide +kernel
theorem dX6_readsValues_65 : decode cX6_readsValues 65 = .ok (.istore 4, 2) := by decide +kernel
theorem dX6_readsValues_67 : decode cX6_readsValues 67 = .ok (.iload 4, 2) := by decide +kernel
theorem dX6_readsValues_69 : decode cX6_readsValues 69 = .ok (.iload_n 1, 1) := by decide +kernel
theorem dX6_readsValues_70 : decode cX6_readsValues 70 = .ok (.if_icmp .ge 17, 3) := by decide +kernel
theorem dX6_readsValues_73 : decode cX6_readsValues 73 = .ok (.aload_n 0, 1) := by decide +kernel
theorem dX6_readsValues_74 : decode cX6_readsValues 74 = .ok (.getfield 32, 3) := by decide +kernel
theorem dX6_readsValues_77 : decode cX6_readsValues 77 = .ok (.iload 4, 2) := by decide +kernel
theorem dX6_readsValues_79 : decode cX6_readsValues 79 = .ok (.iload_n 3, 1) := by decide +kernel
theorem dX6_readsValues_80 : decode cX6_readsValues 80 = .ok (.iastore, 1) := by decide +kernel
theorem dX6_readsValues_81 : decode cX6_readsValues 81 = .ok (.iinc 4 1, 3) := by decide +kernel
theorem dX6_readsValues_84 : decode cX6_readsValues 84 = .ok (.goto (-17), 3) := by decide +kernel
theorem dX6_readsValues_87 : decode cX6_readsValues 87 = .ok (.goto (-57), 3) := by decide +kernel
theorem dX6_readsValues_90 : decode cX6_readsValues 90 = .ok (.return_, 1) := by decide +kernel
theorem dX6_laysRead_0 : decode cX6_laysRead 0 = .ok (.aload_n 0, 1) := by decide +kernel
theorem dX6_laysRead_1 : decode cX6_laysRead 1 = .ok (.getfield 211, 3) := by decide +kernel
theorem dX6_laysRead_4 : decode cX6_laysRead 4 = .ok (.invokestatic 67, 3) := by decide +kernel
theorem dX6_laysRead_7 : decode cX6_laysRead 7 = .ok (.istore_n 2, 1) := by decide +kernel
theorem dX6_laysRead_8 : decode cX6_laysRead 8 = .ok (.aload_n 0, 1) := by decide +kernel
theorem dX6_laysRead_9 : decode cX6_laysRead 9 = .ok (.getfield 29, 3) := by decide +kernel
theorem dX6_laysRead_12 : decode cX6_laysRead 12 = .ok (.aload_n 0, 1) := by decide +kernel
theorem dX6_laysRead_13 : decode cX6_laysRead 13 = .ok (.getfield 211, 3) := by decide +kernel
theorem dX6_laysRead_16 : decode cX6_laysRead 16 = .ok (.aload_n 0, 1) := by decide +kernel
theorem dX6_laysRead_17 : decode cX6_laysRead 17 = .ok (.getfield 214, 3) := by decide +kernel
theorem dX6_laysRead_20 : decode cX6_laysRead 20 = .ok (.aload_n 0, 1) := by decide +kernel
theorem dX6_laysRead_21 : decode cX6_laysRead 21 = .ok (.getfield 217, 3) := by decide +kernel
theorem dX6_laysRead_24 : decode cX6_laysRead 24 = .ok (.invokestatic 49, 3) := by decide +kernel
theorem dX6_laysRead_27 : decode cX6_laysRead 27 = .ok (.iload_n 1, 1) := by decide +kernel
theorem dX6_laysRead_28 : decode cX6_laysRead 28 = .ok (.iastore, 1) := by decide +kernel
theorem dX6_laysRead_29 : decode cX6_laysRead 29 = .ok (.iconst 0, 1) := by decide +kernel
theorem dX6_laysRead_30 : decode cX6_laysRead 30 = .ok (.istore_n 3, 1) := by decide +kernel
theorem dX6_laysRead_31 : decode cX6_laysRead 31 = .ok (.iload_n 3, 1) := by decide +kernel
theorem dX6_laysRead_32 : decode cX6_laysRead 32 = .ok (.iload_n 2, 1) := by decide +kernel
theorem dX6_laysRead_33 : decode cX6_laysRead 33 = .ok (.iload_n 2, 1) := by decide +kernel
theorem dX6_laysRead_34 : decode cX6_laysRead 34 = .ok (.imul, 1) := by decide +kernel
theorem dX6_laysRead_35 : decode cX6_laysRead 35 = .ok (.if_icmp .ge 84, 3) := by decide +kernel
theorem dX6_laysRead_38 : decode cX6_laysRead 38 = .ok (.bipush 85, 2) := by decide +kernel
theorem dX6_laysRead_40 : decode cX6_laysRead 40 = .ok (.bipush 16, 2) := by decide +kernel
theorem dX6_laysRead_42 : decode cX6_laysRead 42 = .ok (.aload_n 0, 1) := by decide +kernel
theorem dX6_laysRead_43 : decode cX6_laysRead 43 = .ok (.getfield 214, 3) := by decide +kernel
theorem dX6_laysRead_46 : decode cX6_laysRead 46 = .ok (.iload_n 2, 1) := by decide +kernel
theorem dX6_laysRead_47 : decode cX6_laysRead 47 = .ok (.imul, 1) := by decide +kernel
theorem dX6_laysRead_48 : decode cX6_laysRead 48 = .ok (.iload_n 3, 1) := by decide +kernel
theorem dX6_laysRead_49 : decode cX6_laysRead 49 = .ok (.iload_n 2, 1) := by decide +kernel
theorem dX6_laysRead_50 : decode cX6_laysRead 50 = .ok (.idiv, 1) := by decide +kernel
theorem dX6_laysRead_51 : decode cX6_laysRead 51 = .ok (.iadd, 1) := by decide +kernel
theorem dX6_laysRead_52 : decode cX6_laysRead 52 = .ok (.imul, 1) := by decide +kernel
theorem dX6_laysRead_53 : decode cX6_laysRead 53 = .ok (.iadd, 1) := by decide +kernel
theorem dX6_laysRead_54 : decode cX6_laysRead 54 = .ok (.aload_n 0, 1) := by decide +kernel
theorem dX6_laysRead_55 : decode cX6_laysRead 55 = .ok (.getfield 217, 3) := by decide +kernel
theorem dX6_laysRead_58 : decode cX6_laysRead 58 = .ok (.iload_n 2, 1) := by decide +kernel
theorem dX6_laysRead_59 : decode cX6_laysRead 59 = .ok (.imul, 1) := by decide +kernel
theorem dX6_laysRead_60 : decode cX6_laysRead 60 = .ok (.iadd, 1) := by decide +kernel
theorem dX6_laysRead_61 : decode cX6_laysRead 61 = .ok (.iload_n 3, 1) := by decide +kernel
theorem dX6_laysRead_62 : decode cX6_laysRead 62 = .ok (.iload_n 2, 1) := by decide +kernel
theorem dX6_laysRead_63 : decode cX6_laysRead 63 = .ok (.irem, 1) := by decide +kernel
theorem dX6_laysRead_64 : decode cX6_laysRead 64 = .ok (.iadd, 1) := by decide +kernel
theorem dX6_laysRead_65 : decode cX6_laysRead 65 = .ok (.istore 4, 2) := by decide +kernel
theorem dX6_laysRead_67 : decode cX6_laysRead 67 = .ok (.aload_n 0, 1) := by decide +kernel
theorem dX6_laysRead_68 : decode cX6_laysRead 68 = .ok (.getfield 29, 3) := by decide +kernel
theorem dX6_laysRead_71 : decode cX6_laysRead 71 = .ok (.iload 4, 2) := by decide +kernel
theorem dX6_laysRead_73 : decode cX6_laysRead 73 = .ok (.iload_n 1, 1) := by decide +kernel
theorem dX6_laysRead_74 : decode cX6_laysRead 74 = .ok (.ifCond .ne 7, 3) := by decide +kernel
theorem dX6_laysRead_77 : decode cX6_laysRead 77 = .ok (.iconst 0, 1) := by decide +kernel
theorem dX6_laysRead_78 : decode cX6_laysRead 78 = .ok (.goto 34, 3) := by decide +kernel
theorem dX6_laysRead_81 : decode cX6_laysRead 81 = .ok (.iload_n 1, 1) := by decide +kernel
theorem dX6_laysRead_82 : decode cX6_laysRead 82 = .ok (.iconst 1, 1) := by decide +kernel
theorem dX6_laysRead_83 : decode cX6_laysRead 83 = .ok (.if_icmp .ne 12, 3) := by decide +kernel
theorem dX6_laysRead_86 : decode cX6_laysRead 86 = .ok (.aload_n 0, 1) := by decide +kernel
theorem dX6_laysRead_87 : decode cX6_laysRead 87 = .ok (.getfield 32, 3) := by decide +kernel
theorem dX6_laysRead_90 : decode cX6_laysRead 90 = .ok (.iload_n 3, 1) := by decide +kernel
theorem dX6_laysRead_91 : decode cX6_laysRead 91 = .ok (.iaload, 1) := by decide +kernel
theorem dX6_laysRead_92 : decode cX6_laysRead 92 = .ok (.goto 20, 3) := by decide +kernel
theorem dX6_laysRead_95 : decode cX6_laysRead 95 = .ok (.aload_n 0, 1) := by decide +kernel
theorem dX6_laysRead_96 : decode cX6_laysRead 96 = .ok (.getfield 35, 3) := by decide +kernel
theorem dX6_laysRead_99 : decode cX6_laysRead 99 = .ok (.iload_n 3, 1) := by decide +kernel
theorem dX6_laysRead_100 : decode cX6_laysRead 100 = .ok (.iload_n 2, 1) := by decide +kernel
theorem dX6_laysRead_101 : decode cX6_laysRead 101 = .ok (.idiv, 1) := by decide +kernel
theorem dX6_laysRead_102 : decode cX6_laysRead 102 = .ok (.iaload, 1) := by decide +kernel
theorem dX6_laysRead_103 : decode cX6_laysRead 103 = .ok (.aload_n 0, 1) := by decide +kernel
theorem dX6_laysRead_104 : decode cX6_laysRead 104 = .ok (.getfield 32, 3) := by decide +kernel
theorem dX6_laysRead_107 : decode cX6_laysRead 107 = .ok (.iload_n 3, 1) := by decide +kernel
theorem dX6_laysRead_108 : decode cX6_laysRead 108 = .ok (.iload_n 2, 1) := by decide +kernel
theorem dX6_laysRead_109 : decode cX6_laysRead 109 = .ok (.irem, 1) := by decide +kernel
theorem dX6_laysRead_110 : decode cX6_laysRead 110 = .ok (.iaload, 1) := by decide +kernel
theorem dX6_laysRead_111 : decode cX6_laysRead 111 = .ok (.imul, 1) := by decide +kernel
theorem dX6_laysRead_112 : decode cX6_laysRead 112 = .ok (.iastore, 1) := by decide +kernel
theorem dX6_laysRead_113 : decode cX6_laysRead 113 = .ok (.iinc 3 1, 3) := by decide +kernel
theorem dX6_laysRead_116 : decode cX6_laysRead 116 = .ok (.goto (-85), 3) := by decide +kernel
theorem dX6_laysRead_119 : decode cX6_laysRead 119 = .ok (.return_, 1) := by decide +kernel
theorem dX6_keepsValues_0 : decode cX6_keepsValues 0 = .ok (.iconst 0, 1) := by decide +kernel
theorem dX6_keepsValues_1 : decode cX6_keepsValues 1 = .ok (.istore_n 3, 1) := by decide +kernel
theorem dX6_keepsValues_2 : decode cX6_keepsValues 2 = .ok (.iload_n 3, 1) := by decide +kernel
theorem dX6_keepsValues_3 : decode cX6_keepsValues 3 = .ok (.iload_n 1, 1) := by decide +kernel
theorem dX6_keepsValues_4 : decode cX6_keepsValues 4 = .ok (.if_icmp .ge 41, 3) := by decide +kernel
theorem dX6_keepsValues_7 : decode cX6_keepsValues 7 = .ok (.aload_n 0, 1) := by decide +kernel
theorem dX6_keepsValues_8 : decode cX6_keepsValues 8 = .ok (.getfield 35, 3) := by decide +kernel
theorem dX6_keepsValues_11 : decode cX6_keepsValues 11 = .ok (.iload_n 3, 1) := by decide +kernel
theorem dX6_keepsValues_12 : decode cX6_keepsValues 12 = .ok (.aload_n 0, 1) := by decide +kernel
theorem dX6_keepsValues_13 : decode cX6_keepsValues 13 = .ok (.getfield 32, 3) := by decide +kernel
theorem dX6_keepsValues_16 : decode cX6_keepsValues 16 = .ok (.iload_n 3, 1) := by decide +kernel
theorem dX6_keepsValues_17 : decode cX6_keepsValues 17 = .ok (.iaload, 1) := by decide +kernel
theorem dX6_keepsValues_18 : decode cX6_keepsValues 18 = .ok (.iastore, 1) := by decide +kernel
theorem dX6_keepsValues_19 : decode cX6_keepsValues 19 = .ok (.aload_n 0, 1) := by decide +kernel
theorem dX6_keepsValues_20 : decode cX6_keepsValues 20 = .ok (.getfield 32, 3) := by decide +kernel
theorem dX6_keepsValues_23 : decode cX6_keepsValues 23 = .ok (.iload_n 3, 1) := by decide +kernel
theorem dX6_keepsValues_24 : decode cX6_keepsValues 24 = .ok (.iload_n 2, 1) := by decide +kernel
theorem dX6_keepsValues_25 : decode cX6_keepsValues 25 = .ok (.ifCond .eq 7, 3) := by decide +kernel
theorem dX6_keepsValues_28 : decode cX6_keepsValues 28 = .ok (.iconst 1, 1) := by decide +kernel
theorem dX6_keepsValues_29 : decode cX6_keepsValues 29 = .ok (.goto 9, 3) := by decide +kernel
theorem dX6_keepsValues_32 : decode cX6_keepsValues 32 = .ok (.aload_n 0, 1) := by decide +kernel
theorem dX6_keepsValues_33 : decode cX6_keepsValues 33 = .ok (.getfield 32, 3) := by decide +kernel
theorem dX6_keepsValues_36 : decode cX6_keepsValues 36 = .ok (.iload_n 3, 1) := by decide +kernel
theorem dX6_keepsValues_37 : decode cX6_keepsValues 37 = .ok (.iaload, 1) := by decide +kernel
theorem dX6_keepsValues_38 : decode cX6_keepsValues 38 = .ok (.iastore, 1) := by decide +kernel
theorem dX6_keepsValues_39 : decode cX6_keepsValues 39 = .ok (.iinc 3 1, 3) := by decide +kernel
theorem dX6_keepsValues_42 : decode cX6_keepsValues 42 = .ok (.goto (-40), 3) := by decide +kernel
theorem dX6_keepsValues_45 : decode cX6_keepsValues 45 = .ok (.return_, 1) := by decide +kernel
theorem dX6_readsBlock_0 : decode cX6_readsBlock 0 = .ok (.aload_n 0, 1) := by decide +kernel
theorem dX6_readsBlock_1 : decode cX6_readsBlock 1 = .ok (.getfield 211, 3) := by decide +kernel
theorem dX6_readsBlock_4 : decode cX6_readsBlock 4 = .ok (.invokestatic 67, 3) := by decide +kernel
theorem dX6_readsBlock_7 : decode cX6_readsBlock 7 = .ok (.istore_n 1, 1) := by decide +kernel
theorem dX6_readsBlock_8 : decode cX6_readsBlock 8 = .ok (.aload_n 0, 1) := by decide +kernel
theorem dX6_readsBlock_9 : decode cX6_readsBlock 9 = .ok (.invokevirtual 202, 3) := by decide +kernel
theorem dX6_readsBlock_12 : decode cX6_readsBlock 12 = .ok (.istore_n 2, 1) := by decide +kernel
theorem dX6_readsBlock_13 : decode cX6_readsBlock 13 = .ok (.aload_n 0, 1) := by decide +kernel
theorem dX6_readsBlock_14 : decode cX6_readsBlock 14 = .ok (.iload_n 2, 1) := by decide +kernel
theorem dX6_readsBlock_15 : decode cX6_readsBlock 15 = .ok (.bipush 48, 2) := by decide +kernel
theorem dX6_readsBlock_17 : decode cX6_readsBlock 17 = .ok (.if_icmp .eq 21, 3) := by decide +kernel
theorem dX6_readsBlock_20 : decode cX6_readsBlock 20 = .ok (.iload_n 2, 1) := by decide +kernel
theorem dX6_readsBlock_21 : decode cX6_readsBlock 21 = .ok (.bipush 100, 2) := by decide +kernel
theorem dX6_readsBlock_23 : decode cX6_readsBlock 23 = .ok (.if_icmp .eq 15, 3) := by decide +kernel
theorem dX6_readsBlock_26 : decode cX6_readsBlock 26 = .ok (.iload_n 2, 1) := by decide +kernel
theorem dX6_readsBlock_27 : decode cX6_readsBlock 27 = .ok (.bipush 117, 2) := by decide +kernel
theorem dX6_readsBlock_29 : decode cX6_readsBlock 29 = .ok (.if_icmp .eq 9, 3) := by decide +kernel
theorem dX6_readsBlock_32 : decode cX6_readsBlock 32 = .ok (.iload_n 2, 1) := by decide +kernel
theorem dX6_readsBlock_33 : decode cX6_readsBlock 33 = .ok (.bipush 102, 2) := by decide +kernel
theorem dX6_readsBlock_35 : decode cX6_readsBlock 35 = .ok (.if_icmp .ne 7, 3) := by decide +kernel
theorem dX6_readsBlock_38 : decode cX6_readsBlock 38 = .ok (.iconst 1, 1) := by decide +kernel
theorem dX6_readsBlock_39 : decode cX6_readsBlock 39 = .ok (.goto 4, 3) := by decide +kernel
theorem dX6_readsBlock_42 : decode cX6_readsBlock 42 = .ok (.iconst 0, 1) := by decide +kernel
theorem dX6_readsBlock_43 : decode cX6_readsBlock 43 = .ok (.putfield 198, 3) := by decide +kernel
theorem dX6_readsBlock_46 : decode cX6_readsBlock 46 = .ok (.aload_n 0, 1) := by decide +kernel
theorem dX6_readsBlock_47 : decode cX6_readsBlock 47 = .ok (.dup, 1) := by decide +kernel
theorem dX6_readsBlock_48 : decode cX6_readsBlock 48 = .ok (.getfield 195, 3) := by decide +kernel
theorem dX6_readsBlock_51 : decode cX6_readsBlock 51 = .ok (.aload_n 0, 1) := by decide +kernel
theorem dX6_readsBlock_52 : decode cX6_readsBlock 52 = .ok (.getfield 198, 3) := by decide +kernel
theorem dX6_readsBlock_55 : decode cX6_readsBlock 55 = .ok (.ifCond .eq 7, 3) := by decide +kernel
theorem dX6_readsBlock_58 : decode cX6_readsBlock 58 = .ok (.iconst 1, 1) := by decide +kernel
theorem dX6_readsBlock_59 : decode cX6_readsBlock 59 = .ok (.goto 4, 3) := by decide +kernel
theorem dX6_readsBlock_62 : decode cX6_readsBlock 62 = .ok (.iconst 0, 1) := by decide +kernel
theorem dX6_readsBlock_63 : decode cX6_readsBlock 63 = .ok (.iadd, 1) := by decide +kernel
theorem dX6_readsBlock_64 : decode cX6_readsBlock 64 = .ok (.putfield 195, 3) := by decide +kernel
theorem dX6_readsBlock_67 : decode cX6_readsBlock 67 = .ok (.iload_n 2, 1) := by decide +kernel
theorem dX6_readsBlock_68 : decode cX6_readsBlock 68 = .ok (.lookupswitch 139 #[(48, 44), (100, 52), (102, 124), (117, 94)], 44) := by decide +kernel
theorem dX6_readsBlock_112 : decode cX6_readsBlock 112 = .ok (.aload_n 0, 1) := by decide +kernel
theorem dX6_readsBlock_113 : decode cX6_readsBlock 113 = .ok (.iconst 0, 1) := by decide +kernel
theorem dX6_readsBlock_114 : decode cX6_readsBlock 114 = .ok (.invokevirtual 220, 3) := by decide +kernel
theorem dX6_readsBlock_117 : decode cX6_readsBlock 117 = .ok (.goto 90, 3) := by decide +kernel
theorem dX6_readsBlock_120 : decode cX6_readsBlock 120 = .ok (.aload_n 0, 1) := by decide +kernel
theorem dX6_readsBlock_121 : decode cX6_readsBlock 121 = .ok (.invokevirtual 208, 3) := by decide +kernel
theorem dX6_readsBlock_124 : decode cX6_readsBlock 124 = .ok (.istore_n 3, 1) := by decide +kernel
theorem dX6_readsBlock_125 : decode cX6_readsBlock 125 = .ok (.iconst 0, 1) := by decide +kernel
theorem dX6_readsBlock_126 : decode cX6_readsBlock 126 = .ok (.istore 4, 2) := by decide +kernel
theorem dX6_readsBlock_128 : decode cX6_readsBlock 128 = .ok (.iload 4, 2) := by decide +kernel
theorem dX6_readsBlock_130 : decode cX6_readsBlock 130 = .ok (.iload_n 1, 1) := by decide +kernel
theorem dX6_readsBlock_131 : decode cX6_readsBlock 131 = .ok (.if_icmp .ge 17, 3) := by decide +kernel
theorem dX6_readsBlock_134 : decode cX6_readsBlock 134 = .ok (.aload_n 0, 1) := by decide +kernel
theorem dX6_readsBlock_135 : decode cX6_readsBlock 135 = .ok (.getfield 32, 3) := by decide +kernel
theorem dX6_readsBlock_138 : decode cX6_readsBlock 138 = .ok (.iload 4, 2) := by decide +kernel
theorem dX6_readsBlock_140 : decode cX6_readsBlock 140 = .ok (.iload_n 3, 1) := by decide +kernel
theorem dX6_readsBlock_141 : decode cX6_readsBlock 141 = .ok (.iastore, 1) := by decide +kernel
theorem dX6_readsBlock_142 : decode cX6_readsBlock 142 = .ok (.iinc 4 1, 3) := by decide +kernel
theorem dX6_readsBlock_145 : decode cX6_readsBlock 145 = .ok (.goto (-17), 3) := by decide +kernel
theorem dX6_readsBlock_148 : decode cX6_readsBlock 148 = .ok (.aload_n 0, 1) := by decide +kernel
theorem dX6_readsBlock_149 : decode cX6_readsBlock 149 = .ok (.iload_n 1, 1) := by decide +kernel
theorem dX6_readsBlock_150 : decode cX6_readsBlock 150 = .ok (.iconst 1, 1) := by decide +kernel
theorem dX6_readsBlock_151 : decode cX6_readsBlock 151 = .ok (.invokevirtual 223, 3) := by decide +kernel
theorem dX6_readsBlock_154 : decode cX6_readsBlock 154 = .ok (.aload_n 0, 1) := by decide +kernel
theorem dX6_readsBlock_155 : decode cX6_readsBlock 155 = .ok (.iconst 2, 1) := by decide +kernel
theorem dX6_readsBlock_156 : decode cX6_readsBlock 156 = .ok (.invokevirtual 220, 3) := by decide +kernel
theorem dX6_readsBlock_159 : decode cX6_readsBlock 159 = .ok (.goto 48, 3) := by decide +kernel
theorem dX6_readsBlock_162 : decode cX6_readsBlock 162 = .ok (.aload_n 0, 1) := by decide +kernel
theorem dX6_readsBlock_163 : decode cX6_readsBlock 163 = .ok (.iload_n 1, 1) := by decide +kernel
theorem dX6_readsBlock_164 : decode cX6_readsBlock 164 = .ok (.invokevirtual 227, 3) := by decide +kernel
theorem dX6_readsBlock_167 : decode cX6_readsBlock 167 = .ok (.aload_n 0, 1) := by decide +kernel
theorem dX6_readsBlock_168 : decode cX6_readsBlock 168 = .ok (.iload_n 1, 1) := by decide +kernel
theorem dX6_readsBlock_169 : decode cX6_readsBlock 169 = .ok (.iconst 0, 1) := by decide +kernel
theorem dX6_readsBlock_170 : decode cX6_readsBlock 170 = .ok (.invokevirtual 223, 3) := by decide +kernel
theorem dX6_readsBlock_173 : decode cX6_readsBlock 173 = .ok (.aload_n 0, 1) := by decide +kernel
theorem dX6_readsBlock_174 : decode cX6_readsBlock 174 = .ok (.bipush 118, 2) := by decide +kernel
theorem dX6_readsBlock_176 : decode cX6_readsBlock 176 = .ok (.invokevirtual 230, 3) := by decide +kernel
theorem dX6_readsBlock_179 : decode cX6_readsBlock 179 = .ok (.aload_n 0, 1) := by decide +kernel
theorem dX6_readsBlock_180 : decode cX6_readsBlock 180 = .ok (.iload_n 1, 1) := by decide +kernel
theorem dX6_readsBlock_181 : decode cX6_readsBlock 181 = .ok (.invokevirtual 227, 3) := by decide +kernel
theorem dX6_readsBlock_184 : decode cX6_readsBlock 184 = .ok (.aload_n 0, 1) := by decide +kernel
theorem dX6_readsBlock_185 : decode cX6_readsBlock 185 = .ok (.iconst 2, 1) := by decide +kernel
theorem dX6_readsBlock_186 : decode cX6_readsBlock 186 = .ok (.invokevirtual 220, 3) := by decide +kernel
theorem dX6_readsBlock_189 : decode cX6_readsBlock 189 = .ok (.goto 18, 3) := by decide +kernel
theorem dX6_readsBlock_192 : decode cX6_readsBlock 192 = .ok (.aload_n 0, 1) := by decide +kernel
theorem dX6_readsBlock_193 : decode cX6_readsBlock 193 = .ok (.iload_n 1, 1) := by decide +kernel
theorem dX6_readsBlock_194 : decode cX6_readsBlock 194 = .ok (.iload_n 1, 1) := by decide +kernel
theorem dX6_readsBlock_195 : decode cX6_readsBlock 195 = .ok (.imul, 1) := by decide +kernel
theorem dX6_readsBlock_196 : decode cX6_readsBlock 196 = .ok (.invokevirtual 227, 3) := by decide +kernel
theorem dX6_readsBlock_199 : decode cX6_readsBlock 199 = .ok (.aload_n 0, 1) := by decide +kernel
theorem dX6_readsBlock_200 : decode cX6_readsBlock 200 = .ok (.iconst 1, 1) := by decide +kernel
theorem dX6_readsBlock_201 : decode cX6_readsBlock 201 = .ok (.invokevirtual 220, 3) := by decide +kernel
theorem dX6_readsBlock_204 : decode cX6_readsBlock 204 = .ok (.goto 3, 3) := by decide +kernel
theorem dX6_readsBlock_207 : decode cX6_readsBlock 207 = .ok (.return_, 1) := by decide +kernel
theorem dX6_goesDown_0 : decode cX6_goesDown 0 = .ok (.aload_n 0, 1) := by decide +kernel
theorem dX6_goesDown_1 : decode cX6_goesDown 1 = .ok (.getfield 29, 3) := by decide +kernel
theorem dX6_goesDown_4 : decode cX6_goesDown 4 = .ok (.aload_n 0, 1) := by decide +kernel
theorem dX6_goesDown_5 : decode cX6_goesDown 5 = .ok (.getfield 211, 3) := by decide +kernel
theorem dX6_goesDown_8 : decode cX6_goesDown 8 = .ok (.aload_n 0, 1) := by decide +kernel
theorem dX6_goesDown_9 : decode cX6_goesDown 9 = .ok (.getfield 214, 3) := by decide +kernel
theorem dX6_goesDown_12 : decode cX6_goesDown 12 = .ok (.aload_n 0, 1) := by decide +kernel
theorem dX6_goesDown_13 : decode cX6_goesDown 13 = .ok (.getfield 217, 3) := by decide +kernel
theorem dX6_goesDown_16 : decode cX6_goesDown 16 = .ok (.invokestatic 49, 3) := by decide +kernel
theorem dX6_goesDown_19 : decode cX6_goesDown 19 = .ok (.iconst 3, 1) := by decide +kernel
theorem dX6_goesDown_20 : decode cX6_goesDown 20 = .ok (.iastore, 1) := by decide +kernel
theorem dX6_goesDown_21 : decode cX6_goesDown 21 = .ok (.aload_n 0, 1) := by decide +kernel
theorem dX6_goesDown_22 : decode cX6_goesDown 22 = .ok (.dup, 1) := by decide +kernel
theorem dX6_goesDown_23 : decode cX6_goesDown 23 = .ok (.getfield 195, 3) := by decide +kernel
theorem dX6_goesDown_26 : decode cX6_goesDown 26 = .ok (.iconst 1, 1) := by decide +kernel
theorem dX6_goesDown_27 : decode cX6_goesDown 27 = .ok (.iadd, 1) := by decide +kernel
theorem dX6_goesDown_28 : decode cX6_goesDown 28 = .ok (.putfield 195, 3) := by decide +kernel
theorem dX6_goesDown_31 : decode cX6_goesDown 31 = .ok (.aload_n 0, 1) := by decide +kernel
theorem dX6_goesDown_32 : decode cX6_goesDown 32 = .ok (.dup, 1) := by decide +kernel
theorem dX6_goesDown_33 : decode cX6_goesDown 33 = .ok (.getfield 211, 3) := by decide +kernel
theorem dX6_goesDown_36 : decode cX6_goesDown 36 = .ok (.iconst 1, 1) := by decide +kernel
theorem dX6_goesDown_37 : decode cX6_goesDown 37 = .ok (.iadd, 1) := by decide +kernel
theorem dX6_goesDown_38 : decode cX6_goesDown 38 = .ok (.putfield 211, 3) := by decide +kernel
theorem dX6_goesDown_41 : decode cX6_goesDown 41 = .ok (.aload_n 0, 1) := by decide +kernel
theorem dX6_goesDown_42 : decode cX6_goesDown 42 = .ok (.dup, 1) := by decide +kernel
theorem dX6_goesDown_43 : decode cX6_goesDown 43 = .ok (.getfield 214, 3) := by decide +kernel
theorem dX6_goesDown_46 : decode cX6_goesDown 46 = .ok (.iconst 2, 1) := by decide +kernel
theorem dX6_goesDown_47 : decode cX6_goesDown 47 = .ok (.imul, 1) := by decide +kernel
theorem dX6_goesDown_48 : decode cX6_goesDown 48 = .ok (.putfield 214, 3) := by decide +kernel
theorem dX6_goesDown_51 : decode cX6_goesDown 51 = .ok (.aload_n 0, 1) := by decide +kernel
theorem dX6_goesDown_52 : decode cX6_goesDown 52 = .ok (.dup, 1) := by decide +kernel
theorem dX6_goesDown_53 : decode cX6_goesDown 53 = .ok (.getfield 217, 3) := by decide +kernel
theorem dX6_goesDown_56 : decode cX6_goesDown 56 = .ok (.iconst 2, 1) := by decide +kernel
theorem dX6_goesDown_57 : decode cX6_goesDown 57 = .ok (.imul, 1) := by decide +kernel
theorem dX6_goesDown_58 : decode cX6_goesDown 58 = .ok (.putfield 217, 3) := by decide +kernel
theorem dX6_goesDown_61 : decode cX6_goesDown 61 = .ok (.return_, 1) := by decide +kernel
theorem dX6_goesOn_0 : decode cX6_goesOn 0 = .ok (.aload_n 0, 1) := by decide +kernel
theorem dX6_goesOn_1 : decode cX6_goesOn 1 = .ok (.getfield 211, 3) := by decide +kernel
theorem dX6_goesOn_4 : decode cX6_goesOn 4 = .ok (.ifCond .le 71, 3) := by decide +kernel
theorem dX6_goesOn_7 : decode cX6_goesOn 7 = .ok (.aload_n 0, 1) := by decide +kernel
theorem dX6_goesOn_8 : decode cX6_goesOn 8 = .ok (.getfield 214, 3) := by decide +kernel
theorem dX6_goesOn_11 : decode cX6_goesOn 11 = .ok (.iconst 2, 1) := by decide +kernel
theorem dX6_goesOn_12 : decode cX6_goesOn 12 = .ok (.irem, 1) := by decide +kernel
theorem dX6_goesOn_13 : decode cX6_goesOn 13 = .ok (.iconst 1, 1) := by decide +kernel
theorem dX6_goesOn_14 : decode cX6_goesOn 14 = .ok (.if_icmp .ne 61, 3) := by decide +kernel
theorem dX6_goesOn_17 : decode cX6_goesOn 17 = .ok (.aload_n 0, 1) := by decide +kernel
theorem dX6_goesOn_18 : decode cX6_goesOn 18 = .ok (.getfield 217, 3) := by decide +kernel
theorem dX6_goesOn_21 : decode cX6_goesOn 21 = .ok (.iconst 2, 1) := by decide +kernel
theorem dX6_goesOn_22 : decode cX6_goesOn 22 = .ok (.irem, 1) := by decide +kernel
theorem dX6_goesOn_23 : decode cX6_goesOn 23 = .ok (.iconst 1, 1) := by decide +kernel
theorem dX6_goesOn_24 : decode cX6_goesOn 24 = .ok (.if_icmp .ne 51, 3) := by decide +kernel
theorem dX6_goesOn_27 : decode cX6_goesOn 27 = .ok (.aload_n 0, 1) := by decide +kernel
theorem dX6_goesOn_28 : decode cX6_goesOn 28 = .ok (.bipush 41, 2) := by decide +kernel
theorem dX6_goesOn_30 : decode cX6_goesOn 30 = .ok (.invokevirtual 230, 3) := by decide +kernel
theorem dX6_goesOn_33 : decode cX6_goesOn 33 = .ok (.aload_n 0, 1) := by decide +kernel
theorem dX6_goesOn_34 : decode cX6_goesOn 34 = .ok (.getfield 198, 3) := by decide +kernel
theorem dX6_goesOn_37 : decode cX6_goesOn 37 = .ok (.ifCond .ne 5, 3) := by decide +kernel
theorem dX6_goesOn_40 : decode cX6_goesOn 40 = .ok (.iconst 0, 1) := by decide +kernel
theorem dX6_goesOn_41 : decode cX6_goesOn 41 = .ok (.ireturn, 1) := by decide +kernel
theorem dX6_goesOn_42 : decode cX6_goesOn 42 = .ok (.aload_n 0, 1) := by decide +kernel
theorem dX6_goesOn_43 : decode cX6_goesOn 43 = .ok (.dup, 1) := by decide +kernel
theorem dX6_goesOn_44 : decode cX6_goesOn 44 = .ok (.getfield 211, 3) := by decide +kernel
theorem dX6_goesOn_47 : decode cX6_goesOn 47 = .ok (.iconst 1, 1) := by decide +kernel
theorem dX6_goesOn_48 : decode cX6_goesOn 48 = .ok (.isub, 1) := by decide +kernel
theorem dX6_goesOn_49 : decode cX6_goesOn 49 = .ok (.putfield 211, 3) := by decide +kernel
theorem dX6_goesOn_52 : decode cX6_goesOn 52 = .ok (.aload_n 0, 1) := by decide +kernel
theorem dX6_goesOn_53 : decode cX6_goesOn 53 = .ok (.dup, 1) := by decide +kernel
theorem dX6_goesOn_54 : decode cX6_goesOn 54 = .ok (.getfield 214, 3) := by decide +kernel
theorem dX6_goesOn_57 : decode cX6_goesOn 57 = .ok (.iconst 2, 1) := by decide +kernel
theorem dX6_goesOn_58 : decode cX6_goesOn 58 = .ok (.idiv, 1) := by decide +kernel
theorem dX6_goesOn_59 : decode cX6_goesOn 59 = .ok (.putfield 214, 3) := by decide +kernel
theorem dX6_goesOn_62 : decode cX6_goesOn 62 = .ok (.aload_n 0, 1) := by decide +kernel
theorem dX6_goesOn_63 : decode cX6_goesOn 63 = .ok (.dup, 1) := by decide +kernel
theorem dX6_goesOn_64 : decode cX6_goesOn 64 = .ok (.getfield 217, 3) := by decide +kernel
theorem dX6_goesOn_67 : decode cX6_goesOn 67 = .ok (.iconst 2, 1) := by decide +kernel
theorem dX6_goesOn_68 : decode cX6_goesOn 68 = .ok (.idiv, 1) := by decide +kernel
theorem dX6_goesOn_69 : decode cX6_goesOn 69 = .ok (.putfield 217, 3) := by decide +kernel
theorem dX6_goesOn_72 : decode cX6_goesOn 72 = .ok (.goto (-72), 3) := by decide +kernel
theorem dX6_goesOn_75 : decode cX6_goesOn 75 = .ok (.aload_n 0, 1) := by decide +kernel
theorem dX6_goesOn_76 : decode cX6_goesOn 76 = .ok (.getfield 211, 3) := by decide +kernel
theorem dX6_goesOn_79 : decode cX6_goesOn 79 = .ok (.ifCond .ne 5, 3) := by decide +kernel
theorem dX6_goesOn_82 : decode cX6_goesOn 82 = .ok (.iconst 1, 1) := by decide +kernel
theorem dX6_goesOn_83 : decode cX6_goesOn 83 = .ok (.ireturn, 1) := by decide +kernel
theorem dX6_goesOn_84 : decode cX6_goesOn 84 = .ok (.aload_n 0, 1) := by decide +kernel
theorem dX6_goesOn_85 : decode cX6_goesOn 85 = .ok (.dup, 1) := by decide +kernel
theorem dX6_goesOn_86 : decode cX6_goesOn 86 = .ok (.getfield 214, 3) := by decide +kernel
theorem dX6_goesOn_89 : decode cX6_goesOn 89 = .ok (.aload_n 0, 1) := by decide +kernel
theorem dX6_goesOn_90 : decode cX6_goesOn 90 = .ok (.getfield 217, 3) := by decide +kernel
theorem dX6_goesOn_93 : decode cX6_goesOn 93 = .ok (.iconst 2, 1) := by decide +kernel
theorem dX6_goesOn_94 : decode cX6_goesOn 94 = .ok (.irem, 1) := by decide +kernel
theorem dX6_goesOn_95 : decode cX6_goesOn 95 = .ok (.iadd, 1) := by decide +kernel
theorem dX6_goesOn_96 : decode cX6_goesOn 96 = .ok (.putfield 214, 3) := by decide +kernel
theorem dX6_goesOn_99 : decode cX6_goesOn 99 = .ok (.aload_n 0, 1) := by decide +kernel
theorem dX6_goesOn_100 : decode cX6_goesOn 100 = .ok (.dup, 1) := by decide +kernel
theorem dX6_goesOn_101 : decode cX6_goesOn 101 = .ok (.getfield 217, 3) := by decide +kernel
theorem dX6_goesOn_104 : decode cX6_goesOn 104 = .ok (.aload_n 0, 1) := by decide +kernel
theorem dX6_goesOn_105 : decode cX6_goesOn 105 = .ok (.getfield 217, 3) := by decide +kernel
theorem dX6_goesOn_108 : decode cX6_goesOn 108 = .ok (.iconst 2, 1) := by decide +kernel
theorem dX6_goesOn_109 : decode cX6_goesOn 109 = .ok (.irem, 1) := by decide +kernel
theorem dX6_goesOn_110 : decode cX6_goesOn 110 = .ok (.ifCond .ne 7, 3) := by decide +kernel
theorem dX6_goesOn_113 : decode cX6_goesOn 113 = .ok (.iconst 1, 1) := by decide +kernel
theorem dX6_goesOn_114 : decode cX6_goesOn 114 = .ok (.goto 4, 3) := by decide +kernel
theorem dX6_goesOn_117 : decode cX6_goesOn 117 = .ok (.iconst (-1), 1) := by decide +kernel
theorem dX6_goesOn_118 : decode cX6_goesOn 118 = .ok (.iadd, 1) := by decide +kernel
theorem dX6_goesOn_119 : decode cX6_goesOn 119 = .ok (.putfield 217, 3) := by decide +kernel
theorem dX6_goesOn_122 : decode cX6_goesOn 122 = .ok (.iconst 0, 1) := by decide +kernel
theorem dX6_goesOn_123 : decode cX6_goesOn 123 = .ok (.ireturn, 1) := by decide +kernel
theorem dX6_reads_0 : decode cX6_reads 0 = .ok (.aload_n 0, 1) := by decide +kernel
theorem dX6_reads_1 : decode cX6_reads 1 = .ok (.iconst 0, 1) := by decide +kernel
theorem dX6_reads_2 : decode cX6_reads 2 = .ok (.putfield 195, 3) := by decide +kernel
theorem dX6_reads_5 : decode cX6_reads 5 = .ok (.aload_n 0, 1) := by decide +kernel
theorem dX6_reads_6 : decode cX6_reads 6 = .ok (.iconst 1, 1) := by decide +kernel
theorem dX6_reads_7 : decode cX6_reads 7 = .ok (.putfield 198, 3) := by decide +kernel
theorem dX6_reads_10 : decode cX6_reads 10 = .ok (.aload_n 0, 1) := by decide +kernel
theorem dX6_reads_11 : decode cX6_reads 11 = .ok (.iconst 0, 1) := by decide +kernel
theorem dX6_reads_12 : decode cX6_reads 12 = .ok (.putfield 211, 3) := by decide +kernel
theorem dX6_reads_15 : decode cX6_reads 15 = .ok (.aload_n 0, 1) := by decide +kernel
theorem dX6_reads_16 : decode cX6_reads 16 = .ok (.iconst 0, 1) := by decide +kernel
theorem dX6_reads_17 : decode cX6_reads 17 = .ok (.putfield 214, 3) := by decide +kernel
theorem dX6_reads_20 : decode cX6_reads 20 = .ok (.aload_n 0, 1) := by decide +kernel
theorem dX6_reads_21 : decode cX6_reads 21 = .ok (.iconst 0, 1) := by decide +kernel
theorem dX6_reads_22 : decode cX6_reads 22 = .ok (.putfield 217, 3) := by decide +kernel
theorem dX6_reads_25 : decode cX6_reads 25 = .ok (.iconst 0, 1) := by decide +kernel
theorem dX6_reads_26 : decode cX6_reads 26 = .ok (.istore_n 1, 1) := by decide +kernel
theorem dX6_reads_27 : decode cX6_reads 27 = .ok (.aload_n 0, 1) := by decide +kernel
theorem dX6_reads_28 : decode cX6_reads 28 = .ok (.getfield 198, 3) := by decide +kernel
theorem dX6_reads_31 : decode cX6_reads 31 = .ok (.ifCond .eq 58, 3) := by decide +kernel
theorem dX6_reads_34 : decode cX6_reads 34 = .ok (.iload_n 1, 1) := by decide +kernel
theorem dX6_reads_35 : decode cX6_reads 35 = .ok (.ifCond .ne 54, 3) := by decide +kernel
theorem dX6_reads_38 : decode cX6_reads 38 = .ok (.aload_n 0, 1) := by decide +kernel
theorem dX6_reads_39 : decode cX6_reads 39 = .ok (.invokevirtual 202, 3) := by decide +kernel
theorem dX6_reads_42 : decode cX6_reads 42 = .ok (.bipush 40, 2) := by decide +kernel
theorem dX6_reads_44 : decode cX6_reads 44 = .ok (.if_icmp .ne 18, 3) := by decide +kernel
theorem dX6_reads_47 : decode cX6_reads 47 = .ok (.aload_n 0, 1) := by decide +kernel
theorem dX6_reads_48 : decode cX6_reads 48 = .ok (.getfield 211, 3) := by decide +kernel
theorem dX6_reads_51 : decode cX6_reads 51 = .ok (.iconst 3, 1) := by decide +kernel
theorem dX6_reads_52 : decode cX6_reads 52 = .ok (.if_icmp .ge 10, 3) := by decide +kernel
theorem dX6_reads_55 : decode cX6_reads 55 = .ok (.aload_n 0, 1) := by decide +kernel
theorem dX6_reads_56 : decode cX6_reads 56 = .ok (.invokevirtual 233, 3) := by decide +kernel
theorem dX6_reads_59 : decode cX6_reads 59 = .ok (.goto (-32), 3) := by decide +kernel
theorem dX6_reads_62 : decode cX6_reads 62 = .ok (.aload_n 0, 1) := by decide +kernel
theorem dX6_reads_63 : decode cX6_reads 63 = .ok (.invokevirtual 236, 3) := by decide +kernel
theorem dX6_reads_66 : decode cX6_reads 66 = .ok (.aload_n 0, 1) := by decide +kernel
theorem dX6_reads_67 : decode cX6_reads 67 = .ok (.getfield 198, 3) := by decide +kernel
theorem dX6_reads_70 : decode cX6_reads 70 = .ok (.ifCond .eq 14, 3) := by decide +kernel
theorem dX6_reads_73 : decode cX6_reads 73 = .ok (.aload_n 0, 1) := by decide +kernel
theorem dX6_reads_74 : decode cX6_reads 74 = .ok (.invokevirtual 239, 3) := by decide +kernel
theorem dX6_reads_77 : decode cX6_reads 77 = .ok (.ifCond .eq 7, 3) := by decide +kernel
theorem dX6_reads_80 : decode cX6_reads 80 = .ok (.iconst 1, 1) := by decide +kernel
theorem dX6_reads_81 : decode cX6_reads 81 = .ok (.goto 4, 3) := by decide +kernel
theorem dX6_reads_84 : decode cX6_reads 84 = .ok (.iconst 0, 1) := by decide +kernel
theorem dX6_reads_85 : decode cX6_reads 85 = .ok (.istore_n 1, 1) := by decide +kernel
theorem dX6_reads_86 : decode cX6_reads 86 = .ok (.goto (-59), 3) := by decide +kernel
theorem dX6_reads_89 : decode cX6_reads 89 = .ok (.aload_n 0, 1) := by decide +kernel
theorem dX6_reads_90 : decode cX6_reads 90 = .ok (.getfield 198, 3) := by decide +kernel
theorem dX6_reads_93 : decode cX6_reads 93 = .ok (.ifCond .eq 19, 3) := by decide +kernel
theorem dX6_reads_96 : decode cX6_reads 96 = .ok (.aload_n 0, 1) := by decide +kernel
theorem dX6_reads_97 : decode cX6_reads 97 = .ok (.getfield 195, 3) := by decide +kernel
theorem dX6_reads_100 : decode cX6_reads 100 = .ok (.aload_n 0, 1) := by decide +kernel
theorem dX6_reads_101 : decode cX6_reads 101 = .ok (.getfield 115, 3) := by decide +kernel
theorem dX6_reads_104 : decode cX6_reads 104 = .ok (.if_icmp .ne 8, 3) := by decide +kernel
theorem dX6_reads_107 : decode cX6_reads 107 = .ok (.bipush (-6), 2) := by decide +kernel
theorem dX6_reads_109 : decode cX6_reads 109 = .ok (.goto 7, 3) := by decide +kernel
theorem dX6_reads_112 : decode cX6_reads 112 = .ok (.aload_n 0, 1) := by decide +kernel
theorem dX6_reads_113 : decode cX6_reads 113 = .ok (.getfield 195, 3) := by decide +kernel
theorem dX6_reads_116 : decode cX6_reads 116 = .ok (.ireturn, 1) := by decide +kernel
theorem dX6_fault_0 : decode cX6_fault 0 = .ok (.aload_n 0, 1) := by decide +kernel
theorem dX6_fault_1 : decode cX6_fault 1 = .ok (.iconst 0, 1) := by decide +kernel
theorem dX6_fault_2 : decode cX6_fault 2 = .ok (.putfield 41, 3) := by decide +kernel
theorem dX6_fault_5 : decode cX6_fault 5 = .ok (.aload_n 0, 1) := by decide +kernel
theorem dX6_fault_6 : decode cX6_fault 6 = .ok (.invokevirtual 108, 3) := by decide +kernel
theorem dX6_fault_9 : decode cX6_fault 9 = .ok (.ireturn, 1) := by decide +kernel
theorem dX6_undo_0 : decode cX6_undo 0 = .ok (.aload_n 0, 1) := by decide +kernel
theorem dX6_undo_1 : decode cX6_undo 1 = .ok (.iconst 0, 1) := by decide +kernel
theorem dX6_undo_2 : decode cX6_undo 2 = .ok (.putfield 41, 3) := by decide +kernel
theorem dX6_undo_5 : decode cX6_undo 5 = .ok (.aload_n 0, 1) := by decide +kernel
theorem dX6_undo_6 : decode cX6_undo 6 = .ok (.getfield 53, 3) := by decide +kernel
theorem dX6_undo_9 : decode cX6_undo 9 = .ok (.ifCond .ne 6, 3) := by decide +kernel
theorem dX6_undo_12 : decode cX6_undo 12 = .ok (.bipush (-5), 2) := by decide +kernel
theorem dX6_undo_14 : decode cX6_undo 14 = .ok (.ireturn, 1) := by decide +kernel
theorem dX6_undo_15 : decode cX6_undo 15 = .ok (.aload_n 0, 1) := by decide +kernel
theorem dX6_undo_16 : decode cX6_undo 16 = .ok (.dup, 1) := by decide +kernel
theorem dX6_undo_17 : decode cX6_undo 17 = .ok (.getfield 53, 3) := by decide +kernel
theorem dX6_undo_20 : decode cX6_undo 20 = .ok (.iconst 1, 1) := by decide +kernel
theorem dX6_undo_21 : decode cX6_undo 21 = .ok (.isub, 1) := by decide +kernel
theorem dX6_undo_22 : decode cX6_undo 22 = .ok (.putfield 53, 3) := by decide +kernel
theorem dX6_undo_25 : decode cX6_undo 25 = .ok (.iconst 0, 1) := by decide +kernel
theorem dX6_undo_26 : decode cX6_undo 26 = .ok (.istore_n 1, 1) := by decide +kernel
theorem dX6_undo_27 : decode cX6_undo 27 = .ok (.iload_n 1, 1) := by decide +kernel
theorem dX6_undo_28 : decode cX6_undo 28 = .ok (.sipush 1365, 3) := by decide +kernel
theorem dX6_undo_31 : decode cX6_undo 31 = .ok (.if_icmp .ge 30, 3) := by decide +kernel
theorem dX6_undo_34 : decode cX6_undo 34 = .ok (.aload_n 0, 1) := by decide +kernel
theorem dX6_undo_35 : decode cX6_undo 35 = .ok (.getfield 7, 3) := by decide +kernel
theorem dX6_undo_38 : decode cX6_undo 38 = .ok (.iload_n 1, 1) := by decide +kernel
theorem dX6_undo_39 : decode cX6_undo 39 = .ok (.aload_n 0, 1) := by decide +kernel
theorem dX6_undo_40 : decode cX6_undo 40 = .ok (.getfield 16, 3) := by decide +kernel
theorem dX6_undo_43 : decode cX6_undo 43 = .ok (.sipush 1365, 3) := by decide +kernel
theorem dX6_undo_46 : decode cX6_undo 46 = .ok (.aload_n 0, 1) := by decide +kernel
theorem dX6_undo_47 : decode cX6_undo 47 = .ok (.getfield 53, 3) := by decide +kernel
theorem dX6_undo_50 : decode cX6_undo 50 = .ok (.imul, 1) := by decide +kernel
theorem dX6_undo_51 : decode cX6_undo 51 = .ok (.iload_n 1, 1) := by decide +kernel
theorem dX6_undo_52 : decode cX6_undo 52 = .ok (.iadd, 1) := by decide +kernel
theorem dX6_undo_53 : decode cX6_undo 53 = .ok (.iaload, 1) := by decide +kernel
theorem dX6_undo_54 : decode cX6_undo 54 = .ok (.iastore, 1) := by decide +kernel
theorem dX6_undo_55 : decode cX6_undo 55 = .ok (.iinc 1 1, 3) := by decide +kernel
theorem dX6_undo_58 : decode cX6_undo 58 = .ok (.goto (-31), 3) := by decide +kernel
theorem dX6_undo_61 : decode cX6_undo 61 = .ok (.aload_n 0, 1) := by decide +kernel
theorem dX6_undo_62 : decode cX6_undo 62 = .ok (.getfield 53, 3) := by decide +kernel
theorem dX6_undo_65 : decode cX6_undo 65 = .ok (.ireturn, 1) := by decide +kernel
theorem dX6_save_0 : decode cX6_save 0 = .ok (.aload_n 0, 1) := by decide +kernel
theorem dX6_save_1 : decode cX6_save 1 = .ok (.iconst 0, 1) := by decide +kernel
theorem dX6_save_2 : decode cX6_save 2 = .ok (.putfield 41, 3) := by decide +kernel
theorem dX6_save_5 : decode cX6_save 5 = .ok (.iload_n 1, 1) := by decide +kernel
theorem dX6_save_6 : decode cX6_save 6 = .ok (.iconst 0, 1) := by decide +kernel
theorem dX6_save_7 : decode cX6_save 7 = .ok (.iconst 1, 1) := by decide +kernel
theorem dX6_save_8 : decode cX6_save 8 = .ok (.invokestatic 45, 3) := by decide +kernel
theorem dX6_save_11 : decode cX6_save 11 = .ok (.ifCond .ne 6, 3) := by decide +kernel
theorem dX6_save_14 : decode cX6_save 14 = .ok (.bipush (-2), 2) := by decide +kernel
theorem dX6_save_16 : decode cX6_save 16 = .ok (.ireturn, 1) := by decide +kernel
theorem dX6_save_17 : decode cX6_save 17 = .ok (.iconst 0, 1) := by decide +kernel
theorem dX6_save_18 : decode cX6_save 18 = .ok (.istore_n 2, 1) := by decide +kernel
theorem dX6_save_19 : decode cX6_save 19 = .ok (.iload_n 2, 1) := by decide +kernel
theorem dX6_save_20 : decode cX6_save 20 = .ok (.sipush 1365, 3) := by decide +kernel
theorem dX6_save_23 : decode cX6_save 23 = .ok (.if_icmp .ge 27, 3) := by decide +kernel
theorem dX6_save_26 : decode cX6_save 26 = .ok (.aload_n 0, 1) := by decide +kernel
theorem dX6_save_27 : decode cX6_save 27 = .ok (.getfield 19, 3) := by decide +kernel
theorem dX6_save_30 : decode cX6_save 30 = .ok (.sipush 1365, 3) := by decide +kernel
theorem dX6_save_33 : decode cX6_save 33 = .ok (.iload_n 1, 1) := by decide +kernel
theorem dX6_save_34 : decode cX6_save 34 = .ok (.imul, 1) := by decide +kernel
theorem dX6_save_35 : decode cX6_save 35 = .ok (.iload_n 2, 1) := by decide +kernel
theorem dX6_save_36 : decode cX6_save 36 = .ok (.iadd, 1) := by decide +kernel
theorem dX6_save_37 : decode cX6_save 37 = .ok (.aload_n 0, 1) := by decide +kernel
theorem dX6_save_38 : decode cX6_save 38 = .ok (.getfield 7, 3) := by decide +kernel
theorem dX6_save_41 : decode cX6_save 41 = .ok (.iload_n 2, 1) := by decide +kernel
theorem dX6_save_42 : decode cX6_save 42 = .ok (.iaload, 1) := by decide +kernel
theorem dX6_save_43 : decode cX6_save 43 = .ok (.iastore, 1) := by decide +kernel
theorem dX6_save_44 : decode cX6_save 44 = .ok (.iinc 2 1, 3) := by decide +kernel
theorem dX6_save_47 : decode cX6_save 47 = .ok (.goto (-28), 3) := by decide +kernel
theorem dX6_save_50 : decode cX6_save 50 = .ok (.aload_n 0, 1) := by decide +kernel
theorem dX6_save_51 : decode cX6_save 51 = .ok (.getfield 22, 3) := by decide +kernel
theorem dX6_save_54 : decode cX6_save 54 = .ok (.iload_n 1, 1) := by decide +kernel
theorem dX6_save_55 : decode cX6_save 55 = .ok (.iconst 1, 1) := by decide +kernel
theorem dX6_save_56 : decode cX6_save 56 = .ok (.bastore, 1) := by decide +kernel
theorem dX6_save_57 : decode cX6_save 57 = .ok (.aload_n 0, 1) := by decide +kernel
theorem dX6_save_58 : decode cX6_save 58 = .ok (.invokevirtual 178, 3) := by decide +kernel
theorem dX6_save_61 : decode cX6_save 61 = .ok (.ireturn, 1) := by decide +kernel
theorem dX6_restore_0 : decode cX6_restore 0 = .ok (.aload_n 0, 1) := by decide +kernel
theorem dX6_restore_1 : decode cX6_restore 1 = .ok (.iconst 0, 1) := by decide +kernel
theorem dX6_restore_2 : decode cX6_restore 2 = .ok (.putfield 41, 3) := by decide +kernel
theorem dX6_restore_5 : decode cX6_restore 5 = .ok (.iload_n 1, 1) := by decide +kernel
theorem dX6_restore_6 : decode cX6_restore 6 = .ok (.iconst 0, 1) := by decide +kernel
theorem dX6_restore_7 : decode cX6_restore 7 = .ok (.iconst 1, 1) := by decide +kernel
theorem dX6_restore_8 : decode cX6_restore 8 = .ok (.invokestatic 45, 3) := by decide +kernel
theorem dX6_restore_11 : decode cX6_restore 11 = .ok (.ifCond .ne 6, 3) := by decide +kernel
theorem dX6_restore_14 : decode cX6_restore 14 = .ok (.bipush (-2), 2) := by decide +kernel
theorem dX6_restore_16 : decode cX6_restore 16 = .ok (.ireturn, 1) := by decide +kernel
theorem dX6_restore_17 : decode cX6_restore 17 = .ok (.aload_n 0, 1) := by decide +kernel
theorem dX6_restore_18 : decode cX6_restore 18 = .ok (.getfield 22, 3) := by decide +kernel
theorem dX6_restore_21 : decode cX6_restore 21 = .ok (.iload_n 1, 1) := by decide +kernel
theorem dX6_restore_22 : decode cX6_restore 22 = .ok (.baload, 1) := by decide +kernel
theorem dX6_restore_23 : decode cX6_restore 23 = .ok (.ifCond .ne 6, 3) := by decide +kernel
theorem dX6_restore_26 : decode cX6_restore 26 = .ok (.bipush (-5), 2) := by decide +kernel
theorem dX6_restore_28 : decode cX6_restore 28 = .ok (.ireturn, 1) := by decide +kernel
theorem dX6_restore_29 : decode cX6_restore 29 = .ok (.aload_n 0, 1) := by decide +kernel
theorem dX6_restore_30 : decode cX6_restore 30 = .ok (.invokevirtual 56, 3) := by decide +kernel
theorem dX6_restore_33 : decode cX6_restore 33 = .ok (.iconst 0, 1) := by decide +kernel
theorem dX6_restore_34 : decode cX6_restore 34 = .ok (.istore_n 2, 1) := by decide +kernel
theorem dX6_restore_35 : decode cX6_restore 35 = .ok (.iload_n 2, 1) := by decide +kernel
theorem dX6_restore_36 : decode cX6_restore 36 = .ok (.sipush 1365, 3) := by decide +kernel
theorem dX6_restore_39 : decode cX6_restore 39 = .ok (.if_icmp .ge 27, 3) := by decide +kernel
theorem dX6_restore_42 : decode cX6_restore 42 = .ok (.aload_n 0, 1) := by decide +kernel
theorem dX6_restore_43 : decode cX6_restore 43 = .ok (.getfield 7, 3) := by decide +kernel
theorem dX6_restore_46 : decode cX6_restore 46 = .ok (.iload_n 2, 1) := by decide +kernel
theorem dX6_restore_47 : decode cX6_restore 47 = .ok (.aload_n 0, 1) := by decide +kernel
theorem dX6_restore_48 : decode cX6_restore 48 = .ok (.getfield 19, 3) := by decide +kernel
theorem dX6_restore_51 : decode cX6_restore 51 = .ok (.sipush 1365, 3) := by decide +kernel
theorem dX6_restore_54 : decode cX6_restore 54 = .ok (.iload_n 1, 1) := by decide +kernel
theorem dX6_restore_55 : decode cX6_restore 55 = .ok (.imul, 1) := by decide +kernel
theorem dX6_restore_56 : decode cX6_restore 56 = .ok (.iload_n 2, 1) := by decide +kernel
theorem dX6_restore_57 : decode cX6_restore 57 = .ok (.iadd, 1) := by decide +kernel
theorem dX6_restore_58 : decode cX6_restore 58 = .ok (.iaload, 1) := by decide +kernel
theorem dX6_restore_59 : decode cX6_restore 59 = .ok (.iastore, 1) := by decide +kernel
theorem dX6_restore_60 : decode cX6_restore 60 = .ok (.iinc 2 1, 3) := by decide +kernel
theorem dX6_restore_63 : decode cX6_restore 63 = .ok (.goto (-28), 3) := by decide +kernel
theorem dX6_restore_66 : decode cX6_restore 66 = .ok (.aload_n 0, 1) := by decide +kernel
theorem dX6_restore_67 : decode cX6_restore 67 = .ok (.invokevirtual 178, 3) := by decide +kernel
theorem dX6_restore_70 : decode cX6_restore 70 = .ok (.ireturn, 1) := by decide +kernel
theorem dJxe99ae_isNaN_b9ae7_0 : decode cJxe99ae_isNaN_b9ae7 0 = .ok (.dload_n 0, 1) := by decide +kernel
theorem dJxe99ae_isNaN_b9ae7_1 : decode cJxe99ae_isNaN_b9ae7 1 = .ok (.dload_n 0, 1) := by decide +kernel
theorem dJxe99ae_isNaN_b9ae7_2 : decode cJxe99ae_isNaN_b9ae7 2 = .ok (.dcmp .l, 1) := by decide +kernel
theorem dJxe99ae_isNaN_b9ae7_3 : decode cJxe99ae_isNaN_b9ae7 3 = .ok (.ifCond .eq 7, 3) := by decide +kernel
theorem dJxe99ae_isNaN_b9ae7_6 : decode cJxe99ae_isNaN_b9ae7 6 = .ok (.iconst 1, 1) := by decide +kernel
theorem dJxe99ae_isNaN_b9ae7_7 : decode cJxe99ae_isNaN_b9ae7 7 = .ok (.goto 4, 3) := by decide +kernel
theorem dJxe99ae_isNaN_b9ae7_10 : decode cJxe99ae_isNaN_b9ae7 10 = .ok (.iconst 0, 1) := by decide +kernel
theorem dJxe99ae_isNaN_b9ae7_11 : decode cJxe99ae_isNaN_b9ae7 11 = .ok (.ireturn, 1) := by decide +kernel
theorem dJxe99ae_doubleToLongBits_ccdee_0 : decode cJxe99ae_doubleToLongBits_ccdee 0 = .ok (.dload_n 0, 1) := by decide +kernel
theorem dJxe99ae_doubleToLongBits_ccdee_1 : decode cJxe99ae_doubleToLongBits_ccdee 1 = .ok (.invokestatic 122, 3) := by decide +kernel
theorem dJxe99ae_doubleToLongBits_ccdee_4 : decode cJxe99ae_doubleToLongBits_ccdee 4 = .ok (.ifCond .ne 8, 3) := by decide +kernel
theorem dJxe99ae_doubleToLongBits_ccdee_7 : decode cJxe99ae_doubleToLongBits_ccdee 7 = .ok (.dload_n 0, 1) := by decide +kernel
theorem dJxe99ae_doubleToLongBits_ccdee_8 : decode cJxe99ae_doubleToLongBits_ccdee 8 = .ok (.invokestatic 134, 3) := by decide +kernel
theorem dJxe99ae_doubleToLongBits_ccdee_11 : decode cJxe99ae_doubleToLongBits_ccdee 11 = .ok (.lreturn, 1) := by decide +kernel
theorem dJxe99ae_doubleToLongBits_ccdee_12 : decode cJxe99ae_doubleToLongBits_ccdee 12 = .ok (.ldc2_w 137, 3) := by decide +kernel
theorem dJxe99ae_doubleToLongBits_ccdee_15 : decode cJxe99ae_doubleToLongBits_ccdee 15 = .ok (.lreturn, 1) := by decide +kernel
theorem dJxf58ca_isNaN_12338_0 : decode cJxf58ca_isNaN_12338 0 = .ok (.fload_n 0, 1) := by decide +kernel
theorem dJxf58ca_isNaN_12338_1 : decode cJxf58ca_isNaN_12338 1 = .ok (.fload_n 0, 1) := by decide +kernel
theorem dJxf58ca_isNaN_12338_2 : decode cJxf58ca_isNaN_12338 2 = .ok (.fcmp .l, 1) := by decide +kernel
theorem dJxf58ca_isNaN_12338_3 : decode cJxf58ca_isNaN_12338 3 = .ok (.ifCond .eq 7, 3) := by decide +kernel
theorem dJxf58ca_isNaN_12338_6 : decode cJxf58ca_isNaN_12338 6 = .ok (.iconst 1, 1) := by decide +kernel
theorem dJxf58ca_isNaN_12338_7 : decode cJxf58ca_isNaN_12338 7 = .ok (.goto 4, 3) := by decide +kernel
theorem dJxf58ca_isNaN_12338_10 : decode cJxf58ca_isNaN_12338 10 = .ok (.iconst 0, 1) := by decide +kernel
theorem dJxf58ca_isNaN_12338_11 : decode cJxf58ca_isNaN_12338 11 = .ok (.ireturn, 1) := by decide +kernel
theorem dJxf58ca_floatToIntBits_5c35a_0 : decode cJxf58ca_floatToIntBits_5c35a 0 = .ok (.fload_n 0, 1) := by decide +kernel
theorem dJxf58ca_floatToIntBits_5c35a_1 : decode cJxf58ca_floatToIntBits_5c35a 1 = .ok (.invokestatic 59, 3) := by decide +kernel
theorem dJxf58ca_floatToIntBits_5c35a_4 : decode cJxf58ca_floatToIntBits_5c35a 4 = .ok (.ifCond .ne 8, 3) := by decide +kernel
theorem dJxf58ca_floatToIntBits_5c35a_7 : decode cJxf58ca_floatToIntBits_5c35a 7 = .ok (.fload_n 0, 1) := by decide +kernel
theorem dJxf58ca_floatToIntBits_5c35a_8 : decode cJxf58ca_floatToIntBits_5c35a 8 = .ok (.invokestatic 74, 3) := by decide +kernel
theorem dJxf58ca_floatToIntBits_5c35a_11 : decode cJxf58ca_floatToIntBits_5c35a 11 = .ok (.ireturn, 1) := by decide +kernel
theorem dJxf58ca_floatToIntBits_5c35a_12 : decode cJxf58ca_floatToIntBits_5c35a 12 = .ok (.ldc 77, 2) := by decide +kernel
theorem dJxf58ca_floatToIntBits_5c35a_14 : decode cJxf58ca_floatToIntBits_5c35a 14 = .ok (.ireturn, 1) := by decide +kernel
theorem dJ9_abs_0f7a4_0 : decode cJ9_abs_0f7a4 0 = .ok (.iload_n 0, 1) := by decide +kernel
theorem dJ9_abs_0f7a4_1 : decode cJ9_abs_0f7a4 1 = .ok (.ifCond .ge 8, 3) := by decide +kernel
theorem dJ9_abs_0f7a4_4 : decode cJ9_abs_0f7a4 4 = .ok (.iload_n 0, 1) := by decide +kernel
theorem dJ9_abs_0f7a4_5 : decode cJ9_abs_0f7a4 5 = .ok (.ineg, 1) := by decide +kernel
theorem dJ9_abs_0f7a4_6 : decode cJ9_abs_0f7a4 6 = .ok (.goto 4, 3) := by decide +kernel
theorem dJ9_abs_0f7a4_9 : decode cJ9_abs_0f7a4 9 = .ok (.iload_n 0, 1) := by decide +kernel
theorem dJ9_abs_0f7a4_10 : decode cJ9_abs_0f7a4 10 = .ok (.ireturn, 1) := by decide +kernel
theorem dJ9_abs_067f4_0 : decode cJ9_abs_067f4 0 = .ok (.lload_n 0, 1) := by decide +kernel
theorem dJ9_abs_067f4_1 : decode cJ9_abs_067f4 1 = .ok (.lconst 0, 1) := by decide +kernel
theorem dJ9_abs_067f4_2 : decode cJ9_abs_067f4 2 = .ok (.lcmp, 1) := by decide +kernel
theorem dJ9_abs_067f4_3 : decode cJ9_abs_067f4 3 = .ok (.ifCond .ge 8, 3) := by decide +kernel
theorem dJ9_abs_067f4_6 : decode cJ9_abs_067f4 6 = .ok (.lload_n 0, 1) := by decide +kernel
theorem dJ9_abs_067f4_7 : decode cJ9_abs_067f4 7 = .ok (.lneg, 1) := by decide +kernel
theorem dJ9_abs_067f4_8 : decode cJ9_abs_067f4 8 = .ok (.goto 4, 3) := by decide +kernel
theorem dJ9_abs_067f4_11 : decode cJ9_abs_067f4 11 = .ok (.lload_n 0, 1) := by decide +kernel
theorem dJ9_abs_067f4_12 : decode cJ9_abs_067f4 12 = .ok (.lreturn, 1) := by decide +kernel
theorem dJ9_max_7cf53_0 : decode cJ9_max_7cf53 0 = .ok (.iload_n 0, 1) := by decide +kernel
theorem dJ9_max_7cf53_1 : decode cJ9_max_7cf53 1 = .ok (.iload_n 1, 1) := by decide +kernel
theorem dJ9_max_7cf53_2 : decode cJ9_max_7cf53 2 = .ok (.if_icmp .lt 7, 3) := by decide +kernel
theorem dJ9_max_7cf53_5 : decode cJ9_max_7cf53 5 = .ok (.iload_n 0, 1) := by decide +kernel
theorem dJ9_max_7cf53_6 : decode cJ9_max_7cf53 6 = .ok (.goto 4, 3) := by decide +kernel
theorem dJ9_max_7cf53_9 : decode cJ9_max_7cf53 9 = .ok (.iload_n 1, 1) := by decide +kernel
theorem dJ9_max_7cf53_10 : decode cJ9_max_7cf53 10 = .ok (.ireturn, 1) := by decide +kernel
theorem dJ9_min_7cf53_0 : decode cJ9_min_7cf53 0 = .ok (.iload_n 0, 1) := by decide +kernel
theorem dJ9_min_7cf53_1 : decode cJ9_min_7cf53 1 = .ok (.iload_n 1, 1) := by decide +kernel
theorem dJ9_min_7cf53_2 : decode cJ9_min_7cf53 2 = .ok (.if_icmp .gt 7, 3) := by decide +kernel
theorem dJ9_min_7cf53_5 : decode cJ9_min_7cf53 5 = .ok (.iload_n 0, 1) := by decide +kernel
theorem dJ9_min_7cf53_6 : decode cJ9_min_7cf53 6 = .ok (.goto 4, 3) := by decide +kernel
theorem dJ9_min_7cf53_9 : decode cJ9_min_7cf53 9 = .ok (.iload_n 1, 1) := by decide +kernel
theorem dJ9_min_7cf53_10 : decode cJ9_min_7cf53 10 = .ok (.ireturn, 1) := by decide +kernel
end
section
theorem dL_law_0 : decode cL_law 0 = .ok (.new 7, 3) := by decide +kernel
theorem dL_law_3 : decode cL_law 3 = .ok (.dup, 1) := by decide +kernel
theorem dL_law_4 : decode cL_law 4 = .ok (.invokespecial 9, 3) := by decide +kernel
theorem dL_law_7 : decode cL_law 7 = .ok (.astore_n 1, 1) := by decide +kernel
theorem dL_law_8 : decode cL_law 8 = .ok (.new 10, 3) := by decide +kernel
theorem dL_law_11 : decode cL_law 11 = .ok (.dup, 1) := by decide +kernel
theorem dL_law_12 : decode cL_law 12 = .ok (.invokespecial 12, 3) := by decide +kernel
theorem dL_law_15 : decode cL_law 15 = .ok (.astore_n 2, 1) := by decide +kernel
theorem dL_law_16 : decode cL_law 16 = .ok (.iconst 0, 1) := by decide +kernel
theorem dL_law_17 : decode cL_law 17 = .ok (.istore_n 3, 1) := by decide +kernel
theorem dL_law_18 : decode cL_law 18 = .ok (.iload_n 3, 1) := by decide +kernel
theorem dL_law_19 : decode cL_law 19 = .ok (.aload_n 0, 1) := by decide +kernel
theorem dL_law_20 : decode cL_law 20 = .ok (.arraylength, 1) := by decide +kernel
theorem dL_law_21 : decode cL_law 21 = .ok (.iconst 5, 1) := by decide +kernel
theorem dL_law_22 : decode cL_law 22 = .ok (.isub, 1) := by decide +kernel
theorem dL_law_23 : decode cL_law 23 = .ok (.if_icmp .gt 911, 3) := by decide +kernel
theorem dL_law_26 : decode cL_law 26 = .ok (.aload_n 0, 1) := by decide +kernel
theorem dL_law_27 : decode cL_law 27 = .ok (.iload_n 3, 1) := by decide +kernel
theorem dL_law_28 : decode cL_law 28 = .ok (.iaload, 1) := by decide +kernel
theorem dL_law_29 : decode cL_law 29 = .ok (.bipush 31, 2) := by decide +kernel
theorem dL_law_31 : decode cL_law 31 = .ok (.iand, 1) := by decide +kernel
theorem dL_law_32 : decode cL_law 32 = .ok (.tableswitch 896 0 23 #[112, 135, 188, 211, 254, 277, 310, 353, 396, 449, 482, 536, 560, 583, 606, 639, 662, 715, 758, 811, 824, 837, 850, 873], 112) := by decide +kernel
theorem dL_law_144 : decode cL_law 144 = .ok (.aload_n 1, 1) := by decide +kernel
theorem dL_law_145 : decode cL_law 145 = .ok (.aload_n 0, 1) := by decide +kernel
theorem dL_law_146 : decode cL_law 146 = .ok (.iload_n 3, 1) := by decide +kernel
theorem dL_law_147 : decode cL_law 147 = .ok (.iconst 1, 1) := by decide +kernel
theorem dL_law_148 : decode cL_law 148 = .ok (.iadd, 1) := by decide +kernel
theorem dL_law_149 : decode cL_law 149 = .ok (.iaload, 1) := by decide +kernel
theorem dL_law_150 : decode cL_law 150 = .ok (.invokevirtual 13, 3) := by decide +kernel
theorem dL_law_153 : decode cL_law 153 = .ok (.aload_n 2, 1) := by decide +kernel
theorem dL_law_154 : decode cL_law 154 = .ok (.aload_n 0, 1) := by decide +kernel
theorem dL_law_155 : decode cL_law 155 = .ok (.iload_n 3, 1) := by decide +kernel
theorem dL_law_156 : decode cL_law 156 = .ok (.iconst 1, 1) := by decide +kernel
theorem dL_law_157 : decode cL_law 157 = .ok (.iadd, 1) := by decide +kernel
theorem dL_law_158 : decode cL_law 158 = .ok (.iaload, 1) := by decide +kernel
theorem dL_law_159 : decode cL_law 159 = .ok (.invokevirtual 17, 3) := by decide +kernel
theorem dL_law_162 : decode cL_law 162 = .ok (.if_icmp .eq 766, 3) := by decide +kernel
theorem dL_law_165 : decode cL_law 165 = .ok (.iconst 0, 1) := by decide +kernel
theorem dL_law_166 : decode cL_law 166 = .ok (.ireturn, 1) := by decide +kernel
theorem dL_law_167 : decode cL_law 167 = .ok (.aload_n 1, 1) := by decide +kernel
theorem dL_law_168 : decode cL_law 168 = .ok (.aload_n 0, 1) := by decide +kernel
theorem dL_law_169 : decode cL_law 169 = .ok (.iload_n 3, 1) := by decide +kernel
theorem dL_law_170 : decode cL_law 170 = .ok (.iconst 1, 1) := by decide +kernel
theorem dL_law_171 : decode cL_law 171 = .ok (.iadd, 1) := by decide +kernel
theorem dL_law_172 : decode cL_law 172 = .ok (.iaload, 1) := by decide +kernel
theorem dL_law_173 : decode cL_law 173 = .ok (.aload_n 0, 1) := by decide +kernel
theorem dL_law_174 : decode cL_law 174 = .ok (.iload_n 3, 1) := by decide +kernel
theorem dL_law_175 : decode cL_law 175 = .ok (.iconst 2, 1) := by decide +kernel
theorem dL_law_176 : decode cL_law 176 = .ok (.iadd, 1) := by decide +kernel
theorem dL_law_177 : decode cL_law 177 = .ok (.iaload, 1) := by decide +kernel
theorem dL_law_178 : decode cL_law 178 = .ok (.aload_n 0, 1) := by decide +kernel
theorem dL_law_179 : decode cL_law 179 = .ok (.iload_n 3, 1) := by decide +kernel
theorem dL_law_180 : decode cL_law 180 = .ok (.iconst 3, 1) := by decide +kernel
theorem dL_law_181 : decode cL_law 181 = .ok (.iadd, 1) := by decide +kernel
theorem dL_law_182 : decode cL_law 182 = .ok (.iaload, 1) := by decide +kernel
theorem dL_law_183 : decode cL_law 183 = .ok (.aload_n 0, 1) := by decide +kernel
theorem dL_law_184 : decode cL_law 184 = .ok (.iload_n 3, 1) := by decide +kernel
theorem dL_law_185 : decode cL_law 185 = .ok (.iconst 4, 1) := by decide +kernel
theorem dL_law_186 : decode cL_law 186 = .ok (.iadd, 1) := by decide +kernel
theorem dL_law_187 : decode cL_law 187 = .ok (.iaload, 1) := by decide +kernel
theorem dL_law_188 : decode cL_law 188 = .ok (.invokevirtual 18, 3) := by decide +kernel
theorem dL_law_191 : decode cL_law 191 = .ok (.aload_n 2, 1) := by decide +kernel
theorem dL_law_192 : decode cL_law 192 = .ok (.aload_n 0, 1) := by decide +kernel
theorem dL_law_193 : decode cL_law 193 = .ok (.iload_n 3, 1) := by decide +kernel
theorem dL_law_194 : decode cL_law 194 = .ok (.iconst 1, 1) := by decide +kernel
theorem dL_law_195 : decode cL_law 195 = .ok (.iadd, 1) := by decide +kernel
theorem dL_law_196 : decode cL_law 196 = .ok (.iaload, 1) := by decide +kernel
theorem dL_law_197 : decode cL_law 197 = .ok (.aload_n 0, 1) := by decide +kernel
theorem dL_law_198 : decode cL_law 198 = .ok (.iload_n 3, 1) := by decide +kernel
theorem dL_law_199 : decode cL_law 199 = .ok (.iconst 2, 1) := by decide +kernel
theorem dL_law_200 : decode cL_law 200 = .ok (.iadd, 1) := by decide +kernel
theorem dL_law_201 : decode cL_law 201 = .ok (.iaload, 1) := by decide +kernel
theorem dL_law_202 : decode cL_law 202 = .ok (.aload_n 0, 1) := by decide +kernel
theorem dL_law_203 : decode cL_law 203 = .ok (.iload_n 3, 1) := by decide +kernel
theorem dL_law_204 : decode cL_law 204 = .ok (.iconst 3, 1) := by decide +kernel
theorem dL_law_205 : decode cL_law 205 = .ok (.iadd, 1) := by decide +kernel
theorem dL_law_206 : decode cL_law 206 = .ok (.iaload, 1) := by decide +kernel
theorem dL_law_207 : decode cL_law 207 = .ok (.aload_n 0, 1) := by decide +kernel
theorem dL_law_208 : decode cL_law 208 = .ok (.iload_n 3, 1) := by decide +kernel
theorem dL_law_209 : decode cL_law 209 = .ok (.iconst 4, 1) := by decide +kernel
theorem dL_law_210 : decode cL_law 210 = .ok (.iadd, 1) := by decide +kernel
theorem dL_law_211 : decode cL_law 211 = .ok (.iaload, 1) := by decide +kernel
theorem dL_law_212 : decode cL_law 212 = .ok (.invokevirtual 22, 3) := by decide +kernel
theorem dL_law_215 : decode cL_law 215 = .ok (.if_icmp .eq 713, 3) := by decide +kernel
theorem dL_law_218 : decode cL_law 218 = .ok (.iconst 0, 1) := by decide +kernel
theorem dL_law_219 : decode cL_law 219 = .ok (.ireturn, 1) := by decide +kernel
theorem dL_law_220 : decode cL_law 220 = .ok (.aload_n 1, 1) := by decide +kernel
theorem dL_law_221 : decode cL_law 221 = .ok (.aload_n 0, 1) := by decide +kernel
theorem dL_law_222 : decode cL_law 222 = .ok (.iload_n 3, 1) := by decide +kernel
theorem dL_law_223 : decode cL_law 223 = .ok (.iconst 1, 1) := by decide +kernel
theorem dL_law_224 : decode cL_law 224 = .ok (.iadd, 1) := by decide +kernel
theorem dL_law_225 : decode cL_law 225 = .ok (.iaload, 1) := by decide +kernel
theorem dL_law_226 : decode cL_law 226 = .ok (.invokevirtual 23, 3) := by decide +kernel
theorem dL_law_229 : decode cL_law 229 = .ok (.aload_n 2, 1) := by decide +kernel
theorem dL_law_230 : decode cL_law 230 = .ok (.aload_n 0, 1) := by decide +kernel
theorem dL_law_231 : decode cL_law 231 = .ok (.iload_n 3, 1) := by decide +kernel
theorem dL_law_232 : decode cL_law 232 = .ok (.iconst 1, 1) := by decide +kernel
theorem dL_law_233 : decode cL_law 233 = .ok (.iadd, 1) := by decide +kernel
theorem dL_law_234 : decode cL_law 234 = .ok (.iaload, 1) := by decide +kernel
theorem dL_law_235 : decode cL_law 235 = .ok (.invokevirtual 26, 3) := by decide +kernel
theorem dL_law_238 : decode cL_law 238 = .ok (.if_icmp .eq 690, 3) := by decide +kernel
theorem dL_law_241 : decode cL_law 241 = .ok (.iconst 0, 1) := by decide +kernel
theorem dL_law_242 : decode cL_law 242 = .ok (.ireturn, 1) := by decide +kernel
theorem dL_law_243 : decode cL_law 243 = .ok (.aload_n 1, 1) := by decide +kernel
theorem dL_law_244 : decode cL_law 244 = .ok (.aload_n 0, 1) := by decide +kernel
theorem dL_law_245 : decode cL_law 245 = .ok (.iload_n 3, 1) := by decide +kernel
theorem dL_law_246 : decode cL_law 246 = .ok (.iconst 1, 1) := by decide +kernel
theorem dL_law_247 : decode cL_law 247 = .ok (.iadd, 1) := by decide +kernel
theorem dL_law_248 : decode cL_law 248 = .ok (.iaload, 1) := by decide +kernel
theorem dL_law_249 : decode cL_law 249 = .ok (.aload_n 0, 1) := by decide +kernel
theorem dL_law_250 : decode cL_law 250 = .ok (.iload_n 3, 1) := by decide +kernel
theorem dL_law_251 : decode cL_law 251 = .ok (.iconst 2, 1) := by decide +kernel
theorem dL_law_252 : decode cL_law 252 = .ok (.iadd, 1) := by decide +kernel
theorem dL_law_253 : decode cL_law 253 = .ok (.iaload, 1) := by decide +kernel
theorem dL_law_254 : decode cL_law 254 = .ok (.aload_n 0, 1) := by decide +kernel
theorem dL_law_255 : decode cL_law 255 = .ok (.iload_n 3, 1) := by decide +kernel
theorem dL_law_256 : decode cL_law 256 = .ok (.iconst 3, 1) := by decide +kernel
theorem dL_law_257 : decode cL_law 257 = .ok (.iadd, 1) := by decide +kernel
theorem dL_law_258 : decode cL_law 258 = .ok (.iaload, 1) := by decide +kernel
theorem dL_law_259 : decode cL_law 259 = .ok (.invokevirtual 27, 3) := by decide +kernel
theorem dL_law_262 : decode cL_law 262 = .ok (.aload_n 2, 1) := by decide +kernel
theorem dL_law_263 : decode cL_law 263 = .ok (.aload_n 0, 1) := by decide +kernel
theorem dL_law_264 : decode cL_law 264 = .ok (.iload_n 3, 1) := by decide +kernel
theorem dL_law_265 : decode cL_law 265 = .ok (.iconst 1, 1) := by decide +kernel
theorem dL_law_266 : decode cL_law 266 = .ok (.iadd, 1) := by decide +kernel
theorem dL_law_267 : decode cL_law 267 = .ok (.iaload, 1) := by decide +kernel
theorem dL_law_268 : decode cL_law 268 = .ok (.aload_n 0, 1) := by decide +kernel
theorem dL_law_269 : decode cL_law 269 = .ok (.iload_n 3, 1) := by decide +kernel
theorem dL_law_270 : decode cL_law 270 = .ok (.iconst 2, 1) := by decide +kernel
theorem dL_law_271 : decode cL_law 271 = .ok (.iadd, 1) := by decide +kernel
theorem dL_law_272 : decode cL_law 272 = .ok (.iaload, 1) := by decide +kernel
theorem dL_law_273 : decode cL_law 273 = .ok (.aload_n 0, 1) := by decide +kernel
theorem dL_law_274 : decode cL_law 274 = .ok (.iload_n 3, 1) := by decide +kernel
theorem dL_law_275 : decode cL_law 275 = .ok (.iconst 3, 1) := by decide +kernel
theorem dL_law_276 : decode cL_law 276 = .ok (.iadd, 1) := by decide +kernel
theorem dL_law_277 : decode cL_law 277 = .ok (.iaload, 1) := by decide +kernel
theorem dL_law_278 : decode cL_law 278 = .ok (.invokevirtual 31, 3) := by decide +kernel
theorem dL_law_281 : decode cL_law 281 = .ok (.if_icmp .eq 647, 3) := by decide +kernel
theorem dL_law_284 : decode cL_law 284 = .ok (.iconst 0, 1) := by decide +kernel
theorem dL_law_285 : decode cL_law 285 = .ok (.ireturn, 1) := by decide +kernel
theorem dL_law_286 : decode cL_law 286 = .ok (.aload_n 1, 1) := by decide +kernel
theorem dL_law_287 : decode cL_law 287 = .ok (.aload_n 0, 1) := by decide +kernel
theorem dL_law_288 : decode cL_law 288 = .ok (.iload_n 3, 1) := by decide +kernel
theorem dL_law_289 : decode cL_law 289 = .ok (.iconst 1, 1) := by decide +kernel
theorem dL_law_290 : decode cL_law 290 = .ok (.iadd, 1) := by decide +kernel
theorem dL_law_291 : decode cL_law 291 = .ok (.iaload, 1) := by decide +kernel
theorem dL_law_292 : decode cL_law 292 = .ok (.invokevirtual 32, 3) := by decide +kernel
theorem dL_law_295 : decode cL_law 295 = .ok (.aload_n 2, 1) := by decide +kernel
theorem dL_law_296 : decode cL_law 296 = .ok (.aload_n 0, 1) := by decide +kernel
theorem dL_law_297 : decode cL_law 297 = .ok (.iload_n 3, 1) := by decide +kernel
theorem dL_law_298 : decode cL_law 298 = .ok (.iconst 1, 1) := by decide +kernel
theorem dL_law_299 : decode cL_law 299 = .ok (.iadd, 1) := by decide +kernel
theorem dL_law_300 : decode cL_law 300 = .ok (.iaload, 1) := by decide +kernel
theorem dL_law_301 : decode cL_law 301 = .ok (.invokevirtual 35, 3) := by decide +kernel
theorem dL_law_304 : decode cL_law 304 = .ok (.if_icmp .eq 624, 3) := by decide +kernel
theorem dL_law_307 : decode cL_law 307 = .ok (.iconst 0, 1) := by decide +kernel
theorem dL_law_308 : decode cL_law 308 = .ok (.ireturn, 1) := by decide +kernel
theorem dL_law_309 : decode cL_law 309 = .ok (.aload_n 1, 1) := by decide +kernel
theorem dL_law_310 : decode cL_law 310 = .ok (.aload_n 0, 1) := by decide +kernel
theorem dL_law_311 : decode cL_law 311 = .ok (.iload_n 3, 1) := by decide +kernel
theorem dL_law_312 : decode cL_law 312 = .ok (.iconst 1, 1) := by decide +kernel
theorem dL_law_313 : decode cL_law 313 = .ok (.iadd, 1) := by decide +kernel
theorem dL_law_314 : decode cL_law 314 = .ok (.iaload, 1) := by decide +kernel
theorem dL_law_315 : decode cL_law 315 = .ok (.aload_n 0, 1) := by decide +kernel
theorem dL_law_316 : decode cL_law 316 = .ok (.iload_n 3, 1) := by decide +kernel
theorem dL_law_317 : decode cL_law 317 = .ok (.iconst 2, 1) := by decide +kernel
theorem dL_law_318 : decode cL_law 318 = .ok (.iadd, 1) := by decide +kernel
theorem dL_law_319 : decode cL_law 319 = .ok (.iaload, 1) := by decide +kernel
theorem dL_law_320 : decode cL_law 320 = .ok (.invokevirtual 36, 3) := by decide +kernel
theorem dL_law_323 : decode cL_law 323 = .ok (.aload_n 2, 1) := by decide +kernel
theorem dL_law_324 : decode cL_law 324 = .ok (.aload_n 0, 1) := by decide +kernel
theorem dL_law_325 : decode cL_law 325 = .ok (.iload_n 3, 1) := by decide +kernel
theorem dL_law_326 : decode cL_law 326 = .ok (.iconst 1, 1) := by decide +kernel
theorem dL_law_327 : decode cL_law 327 = .ok (.iadd, 1) := by decide +kernel
theorem dL_law_328 : decode cL_law 328 = .ok (.iaload, 1) := by decide +kernel
theorem dL_law_329 : decode cL_law 329 = .ok (.aload_n 0, 1) := by decide +kernel
theorem dL_law_330 : decode cL_law 330 = .ok (.iload_n 3, 1) := by decide +kernel
theorem dL_law_331 : decode cL_law 331 = .ok (.iconst 2, 1) := by decide +kernel
theorem dL_law_332 : decode cL_law 332 = .ok (.iadd, 1) := by decide +kernel
theorem dL_law_333 : decode cL_law 333 = .ok (.iaload, 1) := by decide +kernel
theorem dL_law_334 : decode cL_law 334 = .ok (.invokevirtual 40, 3) := by decide +kernel
theorem dL_law_337 : decode cL_law 337 = .ok (.if_icmp .eq 591, 3) := by decide +kernel
theorem dL_law_340 : decode cL_law 340 = .ok (.iconst 0, 1) := by decide +kernel
theorem dL_law_341 : decode cL_law 341 = .ok (.ireturn, 1) := by decide +kernel
theorem dL_law_342 : decode cL_law 342 = .ok (.aload_n 1, 1) := by decide +kernel
theorem dL_law_343 : decode cL_law 343 = .ok (.aload_n 0, 1) := by decide +kernel
theorem dL_law_344 : decode cL_law 344 = .ok (.iload_n 3, 1) := by decide +kernel
theorem dL_law_345 : decode cL_law 345 = .ok (.iconst 1, 1) := by decide +kernel
theorem dL_law_346 : decode cL_law 346 = .ok (.iadd, 1) := by decide +kernel
theorem dL_law_347 : decode cL_law 347 = .ok (.iaload, 1) := by decide +kernel
theorem dL_law_348 : decode cL_law 348 = .ok (.aload_n 0, 1) := by decide +kernel
theorem dL_law_349 : decode cL_law 349 = .ok (.iload_n 3, 1) := by decide +kernel
theorem dL_law_350 : decode cL_law 350 = .ok (.iconst 2, 1) := by decide +kernel
theorem dL_law_351 : decode cL_law 351 = .ok (.iadd, 1) := by decide +kernel
theorem dL_law_352 : decode cL_law 352 = .ok (.iaload, 1) := by decide +kernel
theorem dL_law_353 : decode cL_law 353 = .ok (.aload_n 0, 1) := by decide +kernel
theorem dL_law_354 : decode cL_law 354 = .ok (.iload_n 3, 1) := by decide +kernel
theorem dL_law_355 : decode cL_law 355 = .ok (.iconst 3, 1) := by decide +kernel
theorem dL_law_356 : decode cL_law 356 = .ok (.iadd, 1) := by decide +kernel
theorem dL_law_357 : decode cL_law 357 = .ok (.iaload, 1) := by decide +kernel
theorem dL_law_358 : decode cL_law 358 = .ok (.invokevirtual 41, 3) := by decide +kernel
theorem dL_law_361 : decode cL_law 361 = .ok (.aload_n 2, 1) := by decide +kernel
theorem dL_law_362 : decode cL_law 362 = .ok (.aload_n 0, 1) := by decide +kernel
theorem dL_law_363 : decode cL_law 363 = .ok (.iload_n 3, 1) := by decide +kernel
theorem dL_law_364 : decode cL_law 364 = .ok (.iconst 1, 1) := by decide +kernel
theorem dL_law_365 : decode cL_law 365 = .ok (.iadd, 1) := by decide +kernel
theorem dL_law_366 : decode cL_law 366 = .ok (.iaload, 1) := by decide +kernel
theorem dL_law_367 : decode cL_law 367 = .ok (.aload_n 0, 1) := by decide +kernel
theorem dL_law_368 : decode cL_law 368 = .ok (.iload_n 3, 1) := by decide +kernel
theorem dL_law_369 : decode cL_law 369 = .ok (.iconst 2, 1) := by decide +kernel
theorem dL_law_370 : decode cL_law 370 = .ok (.iadd, 1) := by decide +kernel
theorem dL_law_371 : decode cL_law 371 = .ok (.iaload, 1) := by decide +kernel
theorem dL_law_372 : decode cL_law 372 = .ok (.aload_n 0, 1) := by decide +kernel
theorem dL_law_373 : decode cL_law 373 = .ok (.iload_n 3, 1) := by decide +kernel
theorem dL_law_374 : decode cL_law 374 = .ok (.iconst 3, 1) := by decide +kernel
theorem dL_law_375 : decode cL_law 375 = .ok (.iadd, 1) := by decide +kernel
theorem dL_law_376 : decode cL_law 376 = .ok (.iaload, 1) := by decide +kernel
theorem dL_law_377 : decode cL_law 377 = .ok (.invokevirtual 44, 3) := by decide +kernel
theorem dL_law_380 : decode cL_law 380 = .ok (.if_icmp .eq 548, 3) := by decide +kernel
theorem dL_law_383 : decode cL_law 383 = .ok (.iconst 0, 1) := by decide +kernel
theorem dL_law_384 : decode cL_law 384 = .ok (.ireturn, 1) := by decide +kernel
theorem dL_law_385 : decode cL_law 385 = .ok (.aload_n 1, 1) := by decide +kernel
theorem dL_law_386 : decode cL_law 386 = .ok (.aload_n 0, 1) := by decide +kernel
theorem dL_law_387 : decode cL_law 387 = .ok (.iload_n 3, 1) := by decide +kernel
theorem dL_law_388 : decode cL_law 388 = .ok (.iconst 1, 1) := by decide +kernel
theorem dL_law_389 : decode cL_law 389 = .ok (.iadd, 1) := by decide +kernel
theorem dL_law_390 : decode cL_law 390 = .ok (.iaload, 1) := by decide +kernel
theorem dL_law_391 : decode cL_law 391 = .ok (.aload_n 0, 1) := by decide +kernel
theorem dL_law_392 : decode cL_law 392 = .ok (.iload_n 3, 1) := by decide +kernel
theorem dL_law_393 : decode cL_law 393 = .ok (.iconst 2, 1) := by decide +kernel
theorem dL_law_394 : decode cL_law 394 = .ok (.iadd, 1) := by decide +kernel
theorem dL_law_395 : decode cL_law 395 = .ok (.iaload, 1) := by decide +kernel
theorem dL_law_396 : decode cL_law 396 = .ok (.aload_n 0, 1) := by decide +kernel
theorem dL_law_397 : decode cL_law 397 = .ok (.iload_n 3, 1) := by decide +kernel
theorem dL_law_398 : decode cL_law 398 = .ok (.iconst 3, 1) := by decide +kernel
theorem dL_law_399 : decode cL_law 399 = .ok (.iadd, 1) := by decide +kernel
theorem dL_law_400 : decode cL_law 400 = .ok (.iaload, 1) := by decide +kernel
theorem dL_law_401 : decode cL_law 401 = .ok (.invokevirtual 45, 3) := by decide +kernel
theorem dL_law_404 : decode cL_law 404 = .ok (.aload_n 2, 1) := by decide +kernel
theorem dL_law_405 : decode cL_law 405 = .ok (.aload_n 0, 1) := by decide +kernel
theorem dL_law_406 : decode cL_law 406 = .ok (.iload_n 3, 1) := by decide +kernel
theorem dL_law_407 : decode cL_law 407 = .ok (.iconst 1, 1) := by decide +kernel
theorem dL_law_408 : decode cL_law 408 = .ok (.iadd, 1) := by decide +kernel
theorem dL_law_409 : decode cL_law 409 = .ok (.iaload, 1) := by decide +kernel
theorem dL_law_410 : decode cL_law 410 = .ok (.aload_n 0, 1) := by decide +kernel
theorem dL_law_411 : decode cL_law 411 = .ok (.iload_n 3, 1) := by decide +kernel
theorem dL_law_412 : decode cL_law 412 = .ok (.iconst 2, 1) := by decide +kernel
theorem dL_law_413 : decode cL_law 413 = .ok (.iadd, 1) := by decide +kernel
theorem dL_law_414 : decode cL_law 414 = .ok (.iaload, 1) := by decide +kernel
theorem dL_law_415 : decode cL_law 415 = .ok (.aload_n 0, 1) := by decide +kernel
theorem dL_law_416 : decode cL_law 416 = .ok (.iload_n 3, 1) := by decide +kernel
theorem dL_law_417 : decode cL_law 417 = .ok (.iconst 3, 1) := by decide +kernel
theorem dL_law_418 : decode cL_law 418 = .ok (.iadd, 1) := by decide +kernel
theorem dL_law_419 : decode cL_law 419 = .ok (.iaload, 1) := by decide +kernel
theorem dL_law_420 : decode cL_law 420 = .ok (.invokevirtual 48, 3) := by decide +kernel
theorem dL_law_423 : decode cL_law 423 = .ok (.if_icmp .eq 505, 3) := by decide +kernel
theorem dL_law_426 : decode cL_law 426 = .ok (.iconst 0, 1) := by decide +kernel
theorem dL_law_427 : decode cL_law 427 = .ok (.ireturn, 1) := by decide +kernel
theorem dL_law_428 : decode cL_law 428 = .ok (.aload_n 1, 1) := by decide +kernel
theorem dL_law_429 : decode cL_law 429 = .ok (.aload_n 0, 1) := by decide +kernel
theorem dL_law_430 : decode cL_law 430 = .ok (.iload_n 3, 1) := by decide +kernel
theorem dL_law_431 : decode cL_law 431 = .ok (.iconst 1, 1) := by decide +kernel
theorem dL_law_432 : decode cL_law 432 = .ok (.iadd, 1) := by decide +kernel
theorem dL_law_433 : decode cL_law 433 = .ok (.iaload, 1) := by decide +kernel
theorem dL_law_434 : decode cL_law 434 = .ok (.aload_n 0, 1) := by decide +kernel
theorem dL_law_435 : decode cL_law 435 = .ok (.iload_n 3, 1) := by decide +kernel
theorem dL_law_436 : decode cL_law 436 = .ok (.iconst 2, 1) := by decide +kernel
theorem dL_law_437 : decode cL_law 437 = .ok (.iadd, 1) := by decide +kernel
theorem dL_law_438 : decode cL_law 438 = .ok (.iaload, 1) := by decide +kernel
theorem dL_law_439 : decode cL_law 439 = .ok (.aload_n 0, 1) := by decide +kernel
theorem dL_law_440 : decode cL_law 440 = .ok (.iload_n 3, 1) := by decide +kernel
theorem dL_law_441 : decode cL_law 441 = .ok (.iconst 3, 1) := by decide +kernel
theorem dL_law_442 : decode cL_law 442 = .ok (.iadd, 1) := by decide +kernel
theorem dL_law_443 : decode cL_law 443 = .ok (.iaload, 1) := by decide +kernel
theorem dL_law_444 : decode cL_law 444 = .ok (.aload_n 0, 1) := by decide +kernel
theorem dL_law_445 : decode cL_law 445 = .ok (.iload_n 3, 1) := by decide +kernel
theorem dL_law_446 : decode cL_law 446 = .ok (.iconst 4, 1) := by decide +kernel
theorem dL_law_447 : decode cL_law 447 = .ok (.iadd, 1) := by decide +kernel
theorem dL_law_448 : decode cL_law 448 = .ok (.iaload, 1) := by decide +kernel
theorem dL_law_449 : decode cL_law 449 = .ok (.invokevirtual 49, 3) := by decide +kernel
theorem dL_law_452 : decode cL_law 452 = .ok (.aload_n 2, 1) := by decide +kernel
theorem dL_law_453 : decode cL_law 453 = .ok (.aload_n 0, 1) := by decide +kernel
theorem dL_law_454 : decode cL_law 454 = .ok (.iload_n 3, 1) := by decide +kernel
theorem dL_law_455 : decode cL_law 455 = .ok (.iconst 1, 1) := by decide +kernel
theorem dL_law_456 : decode cL_law 456 = .ok (.iadd, 1) := by decide +kernel
theorem dL_law_457 : decode cL_law 457 = .ok (.iaload, 1) := by decide +kernel
theorem dL_law_458 : decode cL_law 458 = .ok (.aload_n 0, 1) := by decide +kernel
theorem dL_law_459 : decode cL_law 459 = .ok (.iload_n 3, 1) := by decide +kernel
theorem dL_law_460 : decode cL_law 460 = .ok (.iconst 2, 1) := by decide +kernel
theorem dL_law_461 : decode cL_law 461 = .ok (.iadd, 1) := by decide +kernel
theorem dL_law_462 : decode cL_law 462 = .ok (.iaload, 1) := by decide +kernel
theorem dL_law_463 : decode cL_law 463 = .ok (.aload_n 0, 1) := by decide +kernel
theorem dL_law_464 : decode cL_law 464 = .ok (.iload_n 3, 1) := by decide +kernel
theorem dL_law_465 : decode cL_law 465 = .ok (.iconst 3, 1) := by decide +kernel
theorem dL_law_466 : decode cL_law 466 = .ok (.iadd, 1) := by decide +kernel
theorem dL_law_467 : decode cL_law 467 = .ok (.iaload, 1) := by decide +kernel
theorem dL_law_468 : decode cL_law 468 = .ok (.aload_n 0, 1) := by decide +kernel
theorem dL_law_469 : decode cL_law 469 = .ok (.iload_n 3, 1) := by decide +kernel
theorem dL_law_470 : decode cL_law 470 = .ok (.iconst 4, 1) := by decide +kernel
theorem dL_law_471 : decode cL_law 471 = .ok (.iadd, 1) := by decide +kernel
theorem dL_law_472 : decode cL_law 472 = .ok (.iaload, 1) := by decide +kernel
theorem dL_law_473 : decode cL_law 473 = .ok (.invokevirtual 52, 3) := by decide +kernel
theorem dL_law_476 : decode cL_law 476 = .ok (.if_icmp .eq 452, 3) := by decide +kernel
theorem dL_law_479 : decode cL_law 479 = .ok (.iconst 0, 1) := by decide +kernel
theorem dL_law_480 : decode cL_law 480 = .ok (.ireturn, 1) := by decide +kernel
theorem dL_law_481 : decode cL_law 481 = .ok (.aload_n 1, 1) := by decide +kernel
theorem dL_law_482 : decode cL_law 482 = .ok (.aload_n 0, 1) := by decide +kernel
theorem dL_law_483 : decode cL_law 483 = .ok (.iload_n 3, 1) := by decide +kernel
theorem dL_law_484 : decode cL_law 484 = .ok (.iconst 1, 1) := by decide +kernel
theorem dL_law_485 : decode cL_law 485 = .ok (.iadd, 1) := by decide +kernel
theorem dL_law_486 : decode cL_law 486 = .ok (.iaload, 1) := by decide +kernel
theorem dL_law_487 : decode cL_law 487 = .ok (.aload_n 0, 1) := by decide +kernel
theorem dL_law_488 : decode cL_law 488 = .ok (.iload_n 3, 1) := by decide +kernel
theorem dL_law_489 : decode cL_law 489 = .ok (.iconst 2, 1) := by decide +kernel
theorem dL_law_490 : decode cL_law 490 = .ok (.iadd, 1) := by decide +kernel
theorem dL_law_491 : decode cL_law 491 = .ok (.iaload, 1) := by decide +kernel
theorem dL_law_492 : decode cL_law 492 = .ok (.invokevirtual 53, 3) := by decide +kernel
theorem dL_law_495 : decode cL_law 495 = .ok (.aload_n 2, 1) := by decide +kernel
theorem dL_law_496 : decode cL_law 496 = .ok (.aload_n 0, 1) := by decide +kernel
theorem dL_law_497 : decode cL_law 497 = .ok (.iload_n 3, 1) := by decide +kernel
theorem dL_law_498 : decode cL_law 498 = .ok (.iconst 1, 1) := by decide +kernel
theorem dL_law_499 : decode cL_law 499 = .ok (.iadd, 1) := by decide +kernel
theorem dL_law_500 : decode cL_law 500 = .ok (.iaload, 1) := by decide +kernel
theorem dL_law_501 : decode cL_law 501 = .ok (.aload_n 0, 1) := by decide +kernel
theorem dL_law_502 : decode cL_law 502 = .ok (.iload_n 3, 1) := by decide +kernel
theorem dL_law_503 : decode cL_law 503 = .ok (.iconst 2, 1) := by decide +kernel
theorem dL_law_504 : decode cL_law 504 = .ok (.iadd, 1) := by decide +kernel
theorem dL_law_505 : decode cL_law 505 = .ok (.iaload, 1) := by decide +kernel
theorem dL_law_506 : decode cL_law 506 = .ok (.invokevirtual 56, 3) := by decide +kernel
theorem dL_law_509 : decode cL_law 509 = .ok (.if_icmp .eq 419, 3) := by decide +kernel
theorem dL_law_512 : decode cL_law 512 = .ok (.iconst 0, 1) := by decide +kernel
theorem dL_law_513 : decode cL_law 513 = .ok (.ireturn, 1) := by decide +kernel
theorem dL_law_514 : decode cL_law 514 = .ok (.aload_n 1, 1) := by decide +kernel
theorem dL_law_515 : decode cL_law 515 = .ok (.aload_n 0, 1) := by decide +kernel
theorem dL_law_516 : decode cL_law 516 = .ok (.iload_n 3, 1) := by decide +kernel
theorem dL_law_517 : decode cL_law 517 = .ok (.iconst 1, 1) := by decide +kernel
theorem dL_law_518 : decode cL_law 518 = .ok (.iadd, 1) := by decide +kernel
theorem dL_law_519 : decode cL_law 519 = .ok (.iaload, 1) := by decide +kernel
theorem dL_law_520 : decode cL_law 520 = .ok (.aload_n 0, 1) := by decide +kernel
theorem dL_law_521 : decode cL_law 521 = .ok (.iload_n 3, 1) := by decide +kernel
theorem dL_law_522 : decode cL_law 522 = .ok (.iconst 2, 1) := by decide +kernel
theorem dL_law_523 : decode cL_law 523 = .ok (.iadd, 1) := by decide +kernel
theorem dL_law_524 : decode cL_law 524 = .ok (.iaload, 1) := by decide +kernel
theorem dL_law_525 : decode cL_law 525 = .ok (.aload_n 0, 1) := by decide +kernel
theorem dL_law_526 : decode cL_law 526 = .ok (.iload_n 3, 1) := by decide +kernel
theorem dL_law_527 : decode cL_law 527 = .ok (.iconst 3, 1) := by decide +kernel
theorem dL_law_528 : decode cL_law 528 = .ok (.iadd, 1) := by decide +kernel
theorem dL_law_529 : decode cL_law 529 = .ok (.iaload, 1) := by decide +kernel
theorem dL_law_530 : decode cL_law 530 = .ok (.aload_n 0, 1) := by decide +kernel
theorem dL_law_531 : decode cL_law 531 = .ok (.iload_n 3, 1) := by decide +kernel
theorem dL_law_532 : decode cL_law 532 = .ok (.iconst 4, 1) := by decide +kernel
theorem dL_law_533 : decode cL_law 533 = .ok (.iadd, 1) := by decide +kernel
theorem dL_law_534 : decode cL_law 534 = .ok (.iaload, 1) := by decide +kernel
theorem dL_law_535 : decode cL_law 535 = .ok (.invokevirtual 57, 3) := by decide +kernel
theorem dL_law_538 : decode cL_law 538 = .ok (.aload_n 2, 1) := by decide +kernel
theorem dL_law_539 : decode cL_law 539 = .ok (.aload_n 0, 1) := by decide +kernel
theorem dL_law_540 : decode cL_law 540 = .ok (.iload_n 3, 1) := by decide +kernel
theorem dL_law_541 : decode cL_law 541 = .ok (.iconst 1, 1) := by decide +kernel
theorem dL_law_542 : decode cL_law 542 = .ok (.iadd, 1) := by decide +kernel
theorem dL_law_543 : decode cL_law 543 = .ok (.iaload, 1) := by decide +kernel
theorem dL_law_544 : decode cL_law 544 = .ok (.aload_n 0, 1) := by decide +kernel
theorem dL_law_545 : decode cL_law 545 = .ok (.iload_n 3, 1) := by decide +kernel
theorem dL_law_546 : decode cL_law 546 = .ok (.iconst 2, 1) := by decide +kernel
theorem dL_law_547 : decode cL_law 547 = .ok (.iadd, 1) := by decide +kernel
theorem dL_law_548 : decode cL_law 548 = .ok (.iaload, 1) := by decide +kernel
theorem dL_law_549 : decode cL_law 549 = .ok (.aload_n 0, 1) := by decide +kernel
theorem dL_law_550 : decode cL_law 550 = .ok (.iload_n 3, 1) := by decide +kernel
theorem dL_law_551 : decode cL_law 551 = .ok (.iconst 3, 1) := by decide +kernel
theorem dL_law_552 : decode cL_law 552 = .ok (.iadd, 1) := by decide +kernel
theorem dL_law_553 : decode cL_law 553 = .ok (.iaload, 1) := by decide +kernel
theorem dL_law_554 : decode cL_law 554 = .ok (.aload_n 0, 1) := by decide +kernel
theorem dL_law_555 : decode cL_law 555 = .ok (.iload_n 3, 1) := by decide +kernel
theorem dL_law_556 : decode cL_law 556 = .ok (.iconst 4, 1) := by decide +kernel
theorem dL_law_557 : decode cL_law 557 = .ok (.iadd, 1) := by decide +kernel
theorem dL_law_558 : decode cL_law 558 = .ok (.iaload, 1) := by decide +kernel
theorem dL_law_559 : decode cL_law 559 = .ok (.invokevirtual 61, 3) := by decide +kernel
theorem dL_law_562 : decode cL_law 562 = .ok (.lcmp, 1) := by decide +kernel
theorem dL_law_563 : decode cL_law 563 = .ok (.ifCond .eq 365, 3) := by decide +kernel
theorem dL_law_566 : decode cL_law 566 = .ok (.iconst 0, 1) := by decide +kernel
theorem dL_law_567 : decode cL_law 567 = .ok (.ireturn, 1) := by decide +kernel
theorem dL_law_568 : decode cL_law 568 = .ok (.aload_n 1, 1) := by decide +kernel
theorem dL_law_569 : decode cL_law 569 = .ok (.aload_n 0, 1) := by decide +kernel
theorem dL_law_570 : decode cL_law 570 = .ok (.iload_n 3, 1) := by decide +kernel
theorem dL_law_571 : decode cL_law 571 = .ok (.iconst 1, 1) := by decide +kernel
theorem dL_law_572 : decode cL_law 572 = .ok (.iadd, 1) := by decide +kernel
theorem dL_law_573 : decode cL_law 573 = .ok (.iaload, 1) := by decide +kernel
theorem dL_law_574 : decode cL_law 574 = .ok (.invokevirtual 62, 3) := by decide +kernel
theorem dL_law_577 : decode cL_law 577 = .ok (.aload_n 2, 1) := by decide +kernel
theorem dL_law_578 : decode cL_law 578 = .ok (.aload_n 0, 1) := by decide +kernel
theorem dL_law_579 : decode cL_law 579 = .ok (.iload_n 3, 1) := by decide +kernel
theorem dL_law_580 : decode cL_law 580 = .ok (.iconst 1, 1) := by decide +kernel
theorem dL_law_581 : decode cL_law 581 = .ok (.iadd, 1) := by decide +kernel
theorem dL_law_582 : decode cL_law 582 = .ok (.iaload, 1) := by decide +kernel
theorem dL_law_583 : decode cL_law 583 = .ok (.invokevirtual 66, 3) := by decide +kernel
theorem dL_law_586 : decode cL_law 586 = .ok (.lcmp, 1) := by decide +kernel
theorem dL_law_587 : decode cL_law 587 = .ok (.ifCond .eq 341, 3) := by decide +kernel
theorem dL_law_590 : decode cL_law 590 = .ok (.iconst 0, 1) := by decide +kernel
theorem dL_law_591 : decode cL_law 591 = .ok (.ireturn, 1) := by decide +kernel
theorem dL_law_592 : decode cL_law 592 = .ok (.aload_n 1, 1) := by decide +kernel
theorem dL_law_593 : decode cL_law 593 = .ok (.aload_n 0, 1) := by decide +kernel
theorem dL_law_594 : decode cL_law 594 = .ok (.iload_n 3, 1) := by decide +kernel
theorem dL_law_595 : decode cL_law 595 = .ok (.iconst 1, 1) := by decide +kernel
theorem dL_law_596 : decode cL_law 596 = .ok (.iadd, 1) := by decide +kernel
theorem dL_law_597 : decode cL_law 597 = .ok (.iaload, 1) := by decide +kernel
theorem dL_law_598 : decode cL_law 598 = .ok (.invokevirtual 67, 3) := by decide +kernel
theorem dL_law_601 : decode cL_law 601 = .ok (.aload_n 2, 1) := by decide +kernel
theorem dL_law_602 : decode cL_law 602 = .ok (.aload_n 0, 1) := by decide +kernel
theorem dL_law_603 : decode cL_law 603 = .ok (.iload_n 3, 1) := by decide +kernel
theorem dL_law_604 : decode cL_law 604 = .ok (.iconst 1, 1) := by decide +kernel
theorem dL_law_605 : decode cL_law 605 = .ok (.iadd, 1) := by decide +kernel
theorem dL_law_606 : decode cL_law 606 = .ok (.iaload, 1) := by decide +kernel
theorem dL_law_607 : decode cL_law 607 = .ok (.invokevirtual 70, 3) := by decide +kernel
theorem dL_law_610 : decode cL_law 610 = .ok (.if_icmp .eq 318, 3) := by decide +kernel
theorem dL_law_613 : decode cL_law 613 = .ok (.iconst 0, 1) := by decide +kernel
theorem dL_law_614 : decode cL_law 614 = .ok (.ireturn, 1) := by decide +kernel
theorem dL_law_615 : decode cL_law 615 = .ok (.aload_n 1, 1) := by decide +kernel
theorem dL_law_616 : decode cL_law 616 = .ok (.aload_n 0, 1) := by decide +kernel
theorem dL_law_617 : decode cL_law 617 = .ok (.iload_n 3, 1) := by decide +kernel
theorem dL_law_618 : decode cL_law 618 = .ok (.iconst 1, 1) := by decide +kernel
theorem dL_law_619 : decode cL_law 619 = .ok (.iadd, 1) := by decide +kernel
theorem dL_law_620 : decode cL_law 620 = .ok (.iaload, 1) := by decide +kernel
theorem dL_law_621 : decode cL_law 621 = .ok (.invokevirtual 71, 3) := by decide +kernel
theorem dL_law_624 : decode cL_law 624 = .ok (.aload_n 2, 1) := by decide +kernel
theorem dL_law_625 : decode cL_law 625 = .ok (.aload_n 0, 1) := by decide +kernel
theorem dL_law_626 : decode cL_law 626 = .ok (.iload_n 3, 1) := by decide +kernel
theorem dL_law_627 : decode cL_law 627 = .ok (.iconst 1, 1) := by decide +kernel
theorem dL_law_628 : decode cL_law 628 = .ok (.iadd, 1) := by decide +kernel
theorem dL_law_629 : decode cL_law 629 = .ok (.iaload, 1) := by decide +kernel
theorem dL_law_630 : decode cL_law 630 = .ok (.invokevirtual 74, 3) := by decide +kernel
theorem dL_law_633 : decode cL_law 633 = .ok (.if_icmp .eq 295, 3) := by decide +kernel
theorem dL_law_636 : decode cL_law 636 = .ok (.iconst 0, 1) := by decide +kernel
theorem dL_law_637 : decode cL_law 637 = .ok (.ireturn, 1) := by decide +kernel
theorem dL_law_638 : decode cL_law 638 = .ok (.aload_n 1, 1) := by decide +kernel
theorem dL_law_639 : decode cL_law 639 = .ok (.aload_n 0, 1) := by decide +kernel
theorem dL_law_640 : decode cL_law 640 = .ok (.iload_n 3, 1) := by decide +kernel
theorem dL_law_641 : decode cL_law 641 = .ok (.iconst 1, 1) := by decide +kernel
theorem dL_law_642 : decode cL_law 642 = .ok (.iadd, 1) := by decide +kernel
theorem dL_law_643 : decode cL_law 643 = .ok (.iaload, 1) := by decide +kernel
theorem dL_law_644 : decode cL_law 644 = .ok (.aload_n 0, 1) := by decide +kernel
theorem dL_law_645 : decode cL_law 645 = .ok (.iload_n 3, 1) := by decide +kernel
theorem dL_law_646 : decode cL_law 646 = .ok (.iconst 2, 1) := by decide +kernel
theorem dL_law_647 : decode cL_law 647 = .ok (.iadd, 1) := by decide +kernel
theorem dL_law_648 : decode cL_law 648 = .ok (.iaload, 1) := by decide +kernel
theorem dL_law_649 : decode cL_law 649 = .ok (.invokevirtual 75, 3) := by decide +kernel
theorem dL_law_652 : decode cL_law 652 = .ok (.aload_n 2, 1) := by decide +kernel
theorem dL_law_653 : decode cL_law 653 = .ok (.aload_n 0, 1) := by decide +kernel
theorem dL_law_654 : decode cL_law 654 = .ok (.iload_n 3, 1) := by decide +kernel
theorem dL_law_655 : decode cL_law 655 = .ok (.iconst 1, 1) := by decide +kernel
theorem dL_law_656 : decode cL_law 656 = .ok (.iadd, 1) := by decide +kernel
theorem dL_law_657 : decode cL_law 657 = .ok (.iaload, 1) := by decide +kernel
theorem dL_law_658 : decode cL_law 658 = .ok (.aload_n 0, 1) := by decide +kernel
theorem dL_law_659 : decode cL_law 659 = .ok (.iload_n 3, 1) := by decide +kernel
theorem dL_law_660 : decode cL_law 660 = .ok (.iconst 2, 1) := by decide +kernel
theorem dL_law_661 : decode cL_law 661 = .ok (.iadd, 1) := by decide +kernel
theorem dL_law_662 : decode cL_law 662 = .ok (.iaload, 1) := by decide +kernel
theorem dL_law_663 : decode cL_law 663 = .ok (.invokevirtual 78, 3) := by decide +kernel
theorem dL_law_666 : decode cL_law 666 = .ok (.if_icmp .eq 262, 3) := by decide +kernel
theorem dL_law_669 : decode cL_law 669 = .ok (.iconst 0, 1) := by decide +kernel
theorem dL_law_670 : decode cL_law 670 = .ok (.ireturn, 1) := by decide +kernel
theorem dL_law_671 : decode cL_law 671 = .ok (.aload_n 1, 1) := by decide +kernel
theorem dL_law_672 : decode cL_law 672 = .ok (.aload_n 0, 1) := by decide +kernel
theorem dL_law_673 : decode cL_law 673 = .ok (.iload_n 3, 1) := by decide +kernel
theorem dL_law_674 : decode cL_law 674 = .ok (.iconst 1, 1) := by decide +kernel
theorem dL_law_675 : decode cL_law 675 = .ok (.iadd, 1) := by decide +kernel
theorem dL_law_676 : decode cL_law 676 = .ok (.iaload, 1) := by decide +kernel
theorem dL_law_677 : decode cL_law 677 = .ok (.invokevirtual 79, 3) := by decide +kernel
theorem dL_law_680 : decode cL_law 680 = .ok (.aload_n 2, 1) := by decide +kernel
theorem dL_law_681 : decode cL_law 681 = .ok (.aload_n 0, 1) := by decide +kernel
theorem dL_law_682 : decode cL_law 682 = .ok (.iload_n 3, 1) := by decide +kernel
theorem dL_law_683 : decode cL_law 683 = .ok (.iconst 1, 1) := by decide +kernel
theorem dL_law_684 : decode cL_law 684 = .ok (.iadd, 1) := by decide +kernel
theorem dL_law_685 : decode cL_law 685 = .ok (.iaload, 1) := by decide +kernel
theorem dL_law_686 : decode cL_law 686 = .ok (.invokevirtual 82, 3) := by decide +kernel
theorem dL_law_689 : decode cL_law 689 = .ok (.if_icmp .eq 239, 3) := by decide +kernel
theorem dL_law_692 : decode cL_law 692 = .ok (.iconst 0, 1) := by decide +kernel
theorem dL_law_693 : decode cL_law 693 = .ok (.ireturn, 1) := by decide +kernel
theorem dL_law_694 : decode cL_law 694 = .ok (.aload_n 1, 1) := by decide +kernel
theorem dL_law_695 : decode cL_law 695 = .ok (.aload_n 0, 1) := by decide +kernel
theorem dL_law_696 : decode cL_law 696 = .ok (.iload_n 3, 1) := by decide +kernel
theorem dL_law_697 : decode cL_law 697 = .ok (.iconst 1, 1) := by decide +kernel
theorem dL_law_698 : decode cL_law 698 = .ok (.iadd, 1) := by decide +kernel
theorem dL_law_699 : decode cL_law 699 = .ok (.iaload, 1) := by decide +kernel
theorem dL_law_700 : decode cL_law 700 = .ok (.aload_n 0, 1) := by decide +kernel
theorem dL_law_701 : decode cL_law 701 = .ok (.iload_n 3, 1) := by decide +kernel
theorem dL_law_702 : decode cL_law 702 = .ok (.iconst 2, 1) := by decide +kernel
theorem dL_law_703 : decode cL_law 703 = .ok (.iadd, 1) := by decide +kernel
theorem dL_law_704 : decode cL_law 704 = .ok (.iaload, 1) := by decide +kernel
theorem dL_law_705 : decode cL_law 705 = .ok (.aload_n 0, 1) := by decide +kernel
theorem dL_law_706 : decode cL_law 706 = .ok (.iload_n 3, 1) := by decide +kernel
theorem dL_law_707 : decode cL_law 707 = .ok (.iconst 3, 1) := by decide +kernel
theorem dL_law_708 : decode cL_law 708 = .ok (.iadd, 1) := by decide +kernel
theorem dL_law_709 : decode cL_law 709 = .ok (.iaload, 1) := by decide +kernel
theorem dL_law_710 : decode cL_law 710 = .ok (.aload_n 0, 1) := by decide +kernel
theorem dL_law_711 : decode cL_law 711 = .ok (.iload_n 3, 1) := by decide +kernel
theorem dL_law_712 : decode cL_law 712 = .ok (.iconst 4, 1) := by decide +kernel
theorem dL_law_713 : decode cL_law 713 = .ok (.iadd, 1) := by decide +kernel
theorem dL_law_714 : decode cL_law 714 = .ok (.iaload, 1) := by decide +kernel
theorem dL_law_715 : decode cL_law 715 = .ok (.invokevirtual 83, 3) := by decide +kernel
theorem dL_law_718 : decode cL_law 718 = .ok (.aload_n 2, 1) := by decide +kernel
theorem dL_law_719 : decode cL_law 719 = .ok (.aload_n 0, 1) := by decide +kernel
theorem dL_law_720 : decode cL_law 720 = .ok (.iload_n 3, 1) := by decide +kernel
theorem dL_law_721 : decode cL_law 721 = .ok (.iconst 1, 1) := by decide +kernel
theorem dL_law_722 : decode cL_law 722 = .ok (.iadd, 1) := by decide +kernel
theorem dL_law_723 : decode cL_law 723 = .ok (.iaload, 1) := by decide +kernel
theorem dL_law_724 : decode cL_law 724 = .ok (.aload_n 0, 1) := by decide +kernel
theorem dL_law_725 : decode cL_law 725 = .ok (.iload_n 3, 1) := by decide +kernel
theorem dL_law_726 : decode cL_law 726 = .ok (.iconst 2, 1) := by decide +kernel
theorem dL_law_727 : decode cL_law 727 = .ok (.iadd, 1) := by decide +kernel
theorem dL_law_728 : decode cL_law 728 = .ok (.iaload, 1) := by decide +kernel
theorem dL_law_729 : decode cL_law 729 = .ok (.aload_n 0, 1) := by decide +kernel
theorem dL_law_730 : decode cL_law 730 = .ok (.iload_n 3, 1) := by decide +kernel
theorem dL_law_731 : decode cL_law 731 = .ok (.iconst 3, 1) := by decide +kernel
theorem dL_law_732 : decode cL_law 732 = .ok (.iadd, 1) := by decide +kernel
theorem dL_law_733 : decode cL_law 733 = .ok (.iaload, 1) := by decide +kernel
theorem dL_law_734 : decode cL_law 734 = .ok (.aload_n 0, 1) := by decide +kernel
theorem dL_law_735 : decode cL_law 735 = .ok (.iload_n 3, 1) := by decide +kernel
theorem dL_law_736 : decode cL_law 736 = .ok (.iconst 4, 1) := by decide +kernel
theorem dL_law_737 : decode cL_law 737 = .ok (.iadd, 1) := by decide +kernel
theorem dL_law_738 : decode cL_law 738 = .ok (.iaload, 1) := by decide +kernel
theorem dL_law_739 : decode cL_law 739 = .ok (.invokevirtual 86, 3) := by decide +kernel
theorem dL_law_742 : decode cL_law 742 = .ok (.if_icmp .eq 186, 3) := by decide +kernel
theorem dL_law_745 : decode cL_law 745 = .ok (.iconst 0, 1) := by decide +kernel
theorem dL_law_746 : decode cL_law 746 = .ok (.ireturn, 1) := by decide +kernel
theorem dL_law_747 : decode cL_law 747 = .ok (.aload_n 1, 1) := by decide +kernel
theorem dL_law_748 : decode cL_law 748 = .ok (.aload_n 0, 1) := by decide +kernel
theorem dL_law_749 : decode cL_law 749 = .ok (.iload_n 3, 1) := by decide +kernel
theorem dL_law_750 : decode cL_law 750 = .ok (.iconst 1, 1) := by decide +kernel
theorem dL_law_751 : decode cL_law 751 = .ok (.iadd, 1) := by decide +kernel
theorem dL_law_752 : decode cL_law 752 = .ok (.iaload, 1) := by decide +kernel
theorem dL_law_753 : decode cL_law 753 = .ok (.aload_n 0, 1) := by decide +kernel
theorem dL_law_754 : decode cL_law 754 = .ok (.iload_n 3, 1) := by decide +kernel
theorem dL_law_755 : decode cL_law 755 = .ok (.iconst 2, 1) := by decide +kernel
theorem dL_law_756 : decode cL_law 756 = .ok (.iadd, 1) := by decide +kernel
theorem dL_law_757 : decode cL_law 757 = .ok (.iaload, 1) := by decide +kernel
theorem dL_law_758 : decode cL_law 758 = .ok (.aload_n 0, 1) := by decide +kernel
theorem dL_law_759 : decode cL_law 759 = .ok (.iload_n 3, 1) := by decide +kernel
theorem dL_law_760 : decode cL_law 760 = .ok (.iconst 3, 1) := by decide +kernel
theorem dL_law_761 : decode cL_law 761 = .ok (.iadd, 1) := by decide +kernel
theorem dL_law_762 : decode cL_law 762 = .ok (.iaload, 1) := by decide +kernel
theorem dL_law_763 : decode cL_law 763 = .ok (.invokevirtual 87, 3) := by decide +kernel
theorem dL_law_766 : decode cL_law 766 = .ok (.aload_n 2, 1) := by decide +kernel
theorem dL_law_767 : decode cL_law 767 = .ok (.aload_n 0, 1) := by decide +kernel
theorem dL_law_768 : decode cL_law 768 = .ok (.iload_n 3, 1) := by decide +kernel
theorem dL_law_769 : decode cL_law 769 = .ok (.iconst 1, 1) := by decide +kernel
theorem dL_law_770 : decode cL_law 770 = .ok (.iadd, 1) := by decide +kernel
theorem dL_law_771 : decode cL_law 771 = .ok (.iaload, 1) := by decide +kernel
theorem dL_law_772 : decode cL_law 772 = .ok (.aload_n 0, 1) := by decide +kernel
theorem dL_law_773 : decode cL_law 773 = .ok (.iload_n 3, 1) := by decide +kernel
theorem dL_law_774 : decode cL_law 774 = .ok (.iconst 2, 1) := by decide +kernel
theorem dL_law_775 : decode cL_law 775 = .ok (.iadd, 1) := by decide +kernel
theorem dL_law_776 : decode cL_law 776 = .ok (.iaload, 1) := by decide +kernel
theorem dL_law_777 : decode cL_law 777 = .ok (.aload_n 0, 1) := by decide +kernel
theorem dL_law_778 : decode cL_law 778 = .ok (.iload_n 3, 1) := by decide +kernel
theorem dL_law_779 : decode cL_law 779 = .ok (.iconst 3, 1) := by decide +kernel
theorem dL_law_780 : decode cL_law 780 = .ok (.iadd, 1) := by decide +kernel
theorem dL_law_781 : decode cL_law 781 = .ok (.iaload, 1) := by decide +kernel
theorem dL_law_782 : decode cL_law 782 = .ok (.invokevirtual 90, 3) := by decide +kernel
theorem dL_law_785 : decode cL_law 785 = .ok (.if_icmp .eq 143, 3) := by decide +kernel
theorem dL_law_788 : decode cL_law 788 = .ok (.iconst 0, 1) := by decide +kernel
theorem dL_law_789 : decode cL_law 789 = .ok (.ireturn, 1) := by decide +kernel
theorem dL_law_790 : decode cL_law 790 = .ok (.aload_n 1, 1) := by decide +kernel
theorem dL_law_791 : decode cL_law 791 = .ok (.aload_n 0, 1) := by decide +kernel
theorem dL_law_792 : decode cL_law 792 = .ok (.iload_n 3, 1) := by decide +kernel
theorem dL_law_793 : decode cL_law 793 = .ok (.iconst 1, 1) := by decide +kernel
theorem dL_law_794 : decode cL_law 794 = .ok (.iadd, 1) := by decide +kernel
theorem dL_law_795 : decode cL_law 795 = .ok (.iaload, 1) := by decide +kernel
theorem dL_law_796 : decode cL_law 796 = .ok (.i2l, 1) := by decide +kernel
theorem dL_law_797 : decode cL_law 797 = .ok (.bipush 32, 2) := by decide +kernel
theorem dL_law_799 : decode cL_law 799 = .ok (.lshl, 1) := by decide +kernel
theorem dL_law_800 : decode cL_law 800 = .ok (.aload_n 0, 1) := by decide +kernel
theorem dL_law_801 : decode cL_law 801 = .ok (.iload_n 3, 1) := by decide +kernel
theorem dL_law_802 : decode cL_law 802 = .ok (.iconst 2, 1) := by decide +kernel
theorem dL_law_803 : decode cL_law 803 = .ok (.iadd, 1) := by decide +kernel
theorem dL_law_804 : decode cL_law 804 = .ok (.iaload, 1) := by decide +kernel
theorem dL_law_805 : decode cL_law 805 = .ok (.i2l, 1) := by decide +kernel
theorem dL_law_806 : decode cL_law 806 = .ok (.ldc2_w 91, 3) := by decide +kernel
theorem dL_law_809 : decode cL_law 809 = .ok (.land, 1) := by decide +kernel
theorem dL_law_810 : decode cL_law 810 = .ok (.lor, 1) := by decide +kernel
theorem dL_law_811 : decode cL_law 811 = .ok (.invokevirtual 93, 3) := by decide +kernel
theorem dL_law_814 : decode cL_law 814 = .ok (.aload_n 2, 1) := by decide +kernel
theorem dL_law_815 : decode cL_law 815 = .ok (.aload_n 0, 1) := by decide +kernel
theorem dL_law_816 : decode cL_law 816 = .ok (.iload_n 3, 1) := by decide +kernel
theorem dL_law_817 : decode cL_law 817 = .ok (.iconst 1, 1) := by decide +kernel
theorem dL_law_818 : decode cL_law 818 = .ok (.iadd, 1) := by decide +kernel
theorem dL_law_819 : decode cL_law 819 = .ok (.iaload, 1) := by decide +kernel
theorem dL_law_820 : decode cL_law 820 = .ok (.i2l, 1) := by decide +kernel
theorem dL_law_821 : decode cL_law 821 = .ok (.bipush 32, 2) := by decide +kernel
theorem dL_law_823 : decode cL_law 823 = .ok (.lshl, 1) := by decide +kernel
theorem dL_law_824 : decode cL_law 824 = .ok (.aload_n 0, 1) := by decide +kernel
theorem dL_law_825 : decode cL_law 825 = .ok (.iload_n 3, 1) := by decide +kernel
theorem dL_law_826 : decode cL_law 826 = .ok (.iconst 2, 1) := by decide +kernel
theorem dL_law_827 : decode cL_law 827 = .ok (.iadd, 1) := by decide +kernel
theorem dL_law_828 : decode cL_law 828 = .ok (.iaload, 1) := by decide +kernel
theorem dL_law_829 : decode cL_law 829 = .ok (.i2l, 1) := by decide +kernel
theorem dL_law_830 : decode cL_law 830 = .ok (.ldc2_w 91, 3) := by decide +kernel
theorem dL_law_833 : decode cL_law 833 = .ok (.land, 1) := by decide +kernel
theorem dL_law_834 : decode cL_law 834 = .ok (.lor, 1) := by decide +kernel
theorem dL_law_835 : decode cL_law 835 = .ok (.invokevirtual 97, 3) := by decide +kernel
theorem dL_law_838 : decode cL_law 838 = .ok (.if_icmp .eq 90, 3) := by decide +kernel
theorem dL_law_841 : decode cL_law 841 = .ok (.iconst 0, 1) := by decide +kernel
theorem dL_law_842 : decode cL_law 842 = .ok (.ireturn, 1) := by decide +kernel
theorem dL_law_843 : decode cL_law 843 = .ok (.aload_n 1, 1) := by decide +kernel
theorem dL_law_844 : decode cL_law 844 = .ok (.invokevirtual 98, 3) := by decide +kernel
theorem dL_law_847 : decode cL_law 847 = .ok (.aload_n 2, 1) := by decide +kernel
theorem dL_law_848 : decode cL_law 848 = .ok (.invokevirtual 102, 3) := by decide +kernel
theorem dL_law_851 : decode cL_law 851 = .ok (.if_icmp .eq 77, 3) := by decide +kernel
theorem dL_law_854 : decode cL_law 854 = .ok (.iconst 0, 1) := by decide +kernel
theorem dL_law_855 : decode cL_law 855 = .ok (.ireturn, 1) := by decide +kernel
theorem dL_law_856 : decode cL_law 856 = .ok (.aload_n 1, 1) := by decide +kernel
theorem dL_law_857 : decode cL_law 857 = .ok (.invokevirtual 103, 3) := by decide +kernel
theorem dL_law_860 : decode cL_law 860 = .ok (.aload_n 2, 1) := by decide +kernel
theorem dL_law_861 : decode cL_law 861 = .ok (.invokevirtual 106, 3) := by decide +kernel
theorem dL_law_864 : decode cL_law 864 = .ok (.if_icmp .eq 64, 3) := by decide +kernel
theorem dL_law_867 : decode cL_law 867 = .ok (.iconst 0, 1) := by decide +kernel
theorem dL_law_868 : decode cL_law 868 = .ok (.ireturn, 1) := by decide +kernel
theorem dL_law_869 : decode cL_law 869 = .ok (.aload_n 1, 1) := by decide +kernel
theorem dL_law_870 : decode cL_law 870 = .ok (.invokevirtual 107, 3) := by decide +kernel
theorem dL_law_873 : decode cL_law 873 = .ok (.aload_n 2, 1) := by decide +kernel
theorem dL_law_874 : decode cL_law 874 = .ok (.invokevirtual 110, 3) := by decide +kernel
theorem dL_law_877 : decode cL_law 877 = .ok (.if_icmp .eq 51, 3) := by decide +kernel
theorem dL_law_880 : decode cL_law 880 = .ok (.iconst 0, 1) := by decide +kernel
theorem dL_law_881 : decode cL_law 881 = .ok (.ireturn, 1) := by decide +kernel
theorem dL_law_882 : decode cL_law 882 = .ok (.aload_n 1, 1) := by decide +kernel
theorem dL_law_883 : decode cL_law 883 = .ok (.aload_n 0, 1) := by decide +kernel
theorem dL_law_884 : decode cL_law 884 = .ok (.iload_n 3, 1) := by decide +kernel
theorem dL_law_885 : decode cL_law 885 = .ok (.iconst 1, 1) := by decide +kernel
theorem dL_law_886 : decode cL_law 886 = .ok (.iadd, 1) := by decide +kernel
theorem dL_law_887 : decode cL_law 887 = .ok (.iaload, 1) := by decide +kernel
theorem dL_law_888 : decode cL_law 888 = .ok (.invokevirtual 111, 3) := by decide +kernel
theorem dL_law_891 : decode cL_law 891 = .ok (.aload_n 2, 1) := by decide +kernel
theorem dL_law_892 : decode cL_law 892 = .ok (.aload_n 0, 1) := by decide +kernel
theorem dL_law_893 : decode cL_law 893 = .ok (.iload_n 3, 1) := by decide +kernel
theorem dL_law_894 : decode cL_law 894 = .ok (.iconst 1, 1) := by decide +kernel
theorem dL_law_895 : decode cL_law 895 = .ok (.iadd, 1) := by decide +kernel
theorem dL_law_896 : decode cL_law 896 = .ok (.iaload, 1) := by decide +kernel
theorem dL_law_897 : decode cL_law 897 = .ok (.invokevirtual 114, 3) := by decide +kernel
theorem dL_law_900 : decode cL_law 900 = .ok (.if_icmp .eq 28, 3) := by decide +kernel
theorem dL_law_903 : decode cL_law 903 = .ok (.iconst 0, 1) := by decide +kernel
theorem dL_law_904 : decode cL_law 904 = .ok (.ireturn, 1) := by decide +kernel
theorem dL_law_905 : decode cL_law 905 = .ok (.aload_n 1, 1) := by decide +kernel
theorem dL_law_906 : decode cL_law 906 = .ok (.aload_n 0, 1) := by decide +kernel
theorem dL_law_907 : decode cL_law 907 = .ok (.iload_n 3, 1) := by decide +kernel
theorem dL_law_908 : decode cL_law 908 = .ok (.iconst 1, 1) := by decide +kernel
theorem dL_law_909 : decode cL_law 909 = .ok (.iadd, 1) := by decide +kernel
theorem dL_law_910 : decode cL_law 910 = .ok (.iaload, 1) := by decide +kernel
theorem dL_law_911 : decode cL_law 911 = .ok (.invokevirtual 115, 3) := by decide +kernel
theorem dL_law_914 : decode cL_law 914 = .ok (.aload_n 2, 1) := by decide +kernel
theorem dL_law_915 : decode cL_law 915 = .ok (.aload_n 0, 1) := by decide +kernel
theorem dL_law_916 : decode cL_law 916 = .ok (.iload_n 3, 1) := by decide +kernel
theorem dL_law_917 : decode cL_law 917 = .ok (.iconst 1, 1) := by decide +kernel
theorem dL_law_918 : decode cL_law 918 = .ok (.iadd, 1) := by decide +kernel
theorem dL_law_919 : decode cL_law 919 = .ok (.iaload, 1) := by decide +kernel
theorem dL_law_920 : decode cL_law 920 = .ok (.invokevirtual 118, 3) := by decide +kernel
theorem dL_law_923 : decode cL_law 923 = .ok (.if_icmp .eq 5, 3) := by decide +kernel
theorem dL_law_926 : decode cL_law 926 = .ok (.iconst 0, 1) := by decide +kernel
theorem dL_law_927 : decode cL_law 927 = .ok (.ireturn, 1) := by decide +kernel
theorem dL_law_928 : decode cL_law 928 = .ok (.iinc 3 5, 3) := by decide +kernel
theorem dL_law_931 : decode cL_law 931 = .ok (.goto (-913), 3) := by decide +kernel
theorem dL_law_934 : decode cL_law 934 = .ok (.iconst 1, 1) := by decide +kernel
theorem dL_law_935 : decode cL_law 935 = .ok (.ireturn, 1) := by decide +kernel
end
section
/-! THE LAYER: integers instead of machine numbers, one world of numbered cells, one row an instruction -/
abbrev zV : Type := Int ⊕ (Int ⊕ (Option Int ⊕ (UInt64 ⊕ UInt32)))
abbrev zi (x : Int) : zV := Sum.inl x
abbrev zl (x : Int) : zV := Sum.inr (Sum.inl x)
abbrev zr (k : Int) : zV := Sum.inr (Sum.inr (Sum.inl (some k)))
abbrev zn : zV := Sum.inr (Sum.inr (Sum.inl none))
abbrev zd (u : UInt64) : zV := Sum.inr (Sum.inr (Sum.inr (Sum.inl u)))
abbrev zf (u : UInt32) : zV := Sum.inr (Sum.inr (Sum.inr (Sum.inr u)))
def zI (x : Int) : Int32 := Int32.ofInt x
def zJ (x : Int) : Int64 := Int64.ofInt x
abbrev zG : Type := (Nat × Nat) × (va_G × (Nat → ClassId))
def zad (g : zG) (k : Int) : Nat := if k = 0 then g.1.1 else g.1.2 + k.toNat
def zv (g : zG) : zV → Value
  | Sum.inl x => .int (zI x)
  | Sum.inr (Sum.inl x) => .long (zJ x)
  | Sum.inr (Sum.inr (Sum.inl o)) => va_rf (o.map (zad g))
  | Sum.inr (Sum.inr (Sum.inr (Sum.inl u))) => .double u
  | Sum.inr (Sum.inr (Sum.inr (Sum.inr u))) => .float u
abbrev zC : Type := (Nat × (Nat × (Int → Int))) ⊕ ((Nat × (Nat × (Int → Option Int))) ⊕ (Nat × List zV))
abbrev zP (t L : Nat) (f : Int → Int) : zC := Sum.inl (t, (L, f))
abbrev zA (L : Nat) (f : Int → Int) : zC := zP 0 L f
abbrev zQ (t L : Nat) (f : Int → Option Int) : zC := Sum.inr (Sum.inl (t, (L, f)))
abbrev zO (c : Nat) (vs : List zV) : zC := Sum.inr (Sum.inr (c, vs))
def zc (g : zG) : zC → va_E
  | Sum.inl a => .inl (g.2.2 a.1, (a.2.1, .inl (fun j => zI (a.2.2 (j : Int)))))
  | Sum.inr (Sum.inl a) => .inl (g.2.2 a.1, (a.2.1, .inr (.inr (.inr (.inr (fun j => (a.2.2 (j : Int)).map (zad g)))))))
  | Sum.inr (Sum.inr o) => .inr (o.1, o.2.map (zv g))
abbrev zS : Type := Int → zC
def zsu (σ : zS) (k : Int) (c : zC) : zS := fun j => if j = k then c else σ j
def zu (f : Int → Int) (k x : Int) : Int → Int := fun j => if j = k then x else f j
def zuq (f : Int → Option Int) (k : Int) (x : Option Int) : Int → Option Int := fun j => if j = k then x else f j
theorem zsu_s (σ : zS) (k : Int) (c : zC) : zsu σ k c k = c := if_pos rfl
theorem zsu_n (σ : zS) {k j : Int} (c : zC) (h : j ≠ k) : zsu σ k c j = σ j := if_neg h
theorem zsu_u (σ : zS) (k : Int) (c d : zC) : zsu (zsu σ k c) k d = zsu σ k d := by
  funext j; unfold zsu; by_cases h : j = k <;> simp [h]
theorem zsu_self {σ : zS} {k : Int} {c : zC} (h : σ k = c) : zsu σ k c = σ := by
  funext j; unfold zsu; by_cases e : j = k
  · subst e; rw [if_pos rfl, h]
  · rw [if_neg e]
theorem zsu_comm (σ : zS) {k j : Int} (c d : zC) (h : k ≠ j) : zsu (zsu σ k c) j d = zsu (zsu σ j d) k c := by
  funext i; unfold zsu; by_cases e : i = j
  · subst e; rw [if_pos rfl, if_neg (fun q => h q.symm), if_pos rfl]
  · rw [if_neg e]; by_cases e2 : i = k
    · rw [if_pos e2, if_pos e2]
    · rw [if_neg e2, if_neg e2, if_neg e]
theorem zu_s (f : Int → Int) (k x : Int) : zu f k x k = x := if_pos rfl
theorem zu_n (f : Int → Int) {k j : Int} (x : Int) (h : j ≠ k) : zu f k x j = f j := if_neg h
def zW (g : zG) (n : Nat) (σ : zS) : va_W := (List.range n).map fun p => (g.1.2 + (p + 1), zc g (σ ((p : Int) + 1)))
theorem zad_pos (g : zG) {k : Int} (h : 0 < k) : zad g k = g.1.2 + k.toNat := if_neg (by omega)
theorem zW_len (g : zG) (n : Nat) (σ : zS) : (zW g n σ).length = n := by simp [zW]
theorem zW_get (g : zG) (n : Nat) (σ : zS) (p : Nat) : (zW g n σ)[p]? = if p < n then some (g.1.2 + (p + 1), zc g (σ ((p : Int) + 1))) else none := by
  by_cases h : p < n
  · simp [zW, h]
  · simp [zW, h]
theorem zW_at (g : zG) {n : Nat} (σ : zS) {k : Int} (h : 0 < k ∧ k ≤ n) : (zW g n σ)[(k - 1).toNat]? = some (zad g k, zc g (σ k)) := by
  rw [zW_get, if_pos (by omega), zad_pos g h.1]
  have e1 : (((k - 1).toNat : Nat) : Int) + 1 = k := by omega
  have e2 : (k - 1).toNat + 1 = k.toNat := by omega
  rw [e1, e2]
theorem zW_set (g : zG) {n : Nat} (σ : zS) {k : Int} (c : zC) (h : 0 < k ∧ k ≤ n) : (zW g n σ).set (k - 1).toNat (zad g k, zc g c) = zW g n (zsu σ k c) := by
  apply List.ext_getElem?
  intro p
  rw [List.getElem?_set, zW_get, zW_get, zW_len]
  by_cases e : (k - 1).toNat = p
  · subst e
    rw [if_pos rfl, if_pos (by omega), if_pos (by omega), zad_pos g h.1]
    have e1 : (((k - 1).toNat : Nat) : Int) + 1 = k := by omega
    have e2 : (k - 1).toNat + 1 = k.toNat := by omega
    rw [e1, e2, zsu_s]
  · rw [if_neg e]
    by_cases hp : p < n
    · rw [if_pos hp, if_pos hp, zsu_n]
      omega
    · rw [if_neg hp, if_neg hp]
theorem zW_push (g : zG) (n : Nat) (σ : zS) (c : zC) : zW g n σ ++ [(g.1.2 + (n + 1), zc g c)] = zW g (n + 1) (zsu σ ((n : Int) + 1) c) := by
  apply List.ext_getElem?
  intro p
  rw [zW_get]
  by_cases hp : p < n
  · rw [List.getElem?_append_left (by rw [zW_len]; exact hp), zW_get, if_pos hp, if_pos (by omega), zsu_n]
    omega
  · rw [List.getElem?_append_right (by rw [zW_len]; omega), zW_len]
    by_cases e : p = n
    · subst e
      rw [if_pos (by omega), zsu_s]
      simp
    · rw [if_neg (by omega)]
      have : p - n = (p - n - 1) + 1 := by omega
      rw [this]
      rfl
def zty (g : zG) : List (ClassId × FieldType) := [(g.2.2 0, .int), (g.2.2 1, .boolean), (g.2.2 2, .char), (g.2.2 3, .object "BlockTrees$Matrix"), (g.2.2 4, .object "BlockTrees$State"), (g.2.2 5, .object "BlockTrees$Slot")]
def zisN : Cond → Bool
  | .fieldLinkNest .. => true
  | .methodLinkNest .. => true
  | _ => false
def zNW : List Cond := lw_tbl.filter zisN
def zGW : List Cond := lw_tbl.filter goodWord
theorem zGW_in {w : Cond} (i : Nat) (h : lw_tbl[i]? = some w) (hg : goodWord w = true) : w ∈ zGW := List.mem_filter.mpr ⟨List.mem_of_getElem? h, hg⟩
theorem zNW_in {w : Cond} (i : Nat) (h : lw_tbl[i]? = some w) (hg : zisN w = true) : w ∈ zNW := List.mem_filter.mpr ⟨List.mem_of_getElem? h, hg⟩
theorem zGW_good : ∀ w ∈ zGW, goodWord w = true := fun _ h => (List.mem_filter.mp h).2
theorem zGoodIn {y : MethodName} {cc : ByteArray} {ml : Nat} {ret : Option FieldType} (h : Cond.code y cc ml ret ∈ zGW) : GoodIn zGW (Cond.code y cc ml ret :: zGW) := by
  intro w hw
  rcases List.mem_cons.mp hw with rfl | hw
  · exact ⟨h, good_of_word (zGW_good _ h)⟩
  · exact ⟨hw, good_of_word (zGW_good _ hw)⟩
def zK (g : zG) (U : State) : Prop := va_K g.2.1 vwCl (zty g) U ∧ (∀ w ∈ zNW, va_Nw w U) ∧ va_AO "BlockTrees$Matrix" U ∧ va_AO "BlockTrees$State" U ∧ va_AO "BlockTrees$Slot" U
theorem zNw_warm {w : Cond} (hw : zisN w = true) {s U : State} (hW : s.WarmedH U.vm) (h : va_Nw w s) : va_Nw w U := by
  cases w with
  | fieldLinkNest a i b n d hh => exact va_Nw.warmF hW h
  | methodLinkNest a i x hh => exact va_Nw.warmM hW h
  | _ => exact absurd hw (by simp [zisN])
theorem zK.warm {g : zG} {s U : State} (hW : s.WarmedH U.vm) (h : zK g s) : zK g U :=
  ⟨va_K.moved hW.alike h.1, fun w hw => zNw_warm (List.mem_filter.mp hw).2 hW (h.2.1 w hw), va_AO.moved hW.alike h.2.2.1, va_AO.moved hW.alike h.2.2.2.1, va_AO.moved hW.alike h.2.2.2.2⟩
theorem zNw_same {w : Cond} (hw : zisN w = true) {u U : State} (e : u.vm = U.vm) (h : va_Nw w u) : va_Nw w U := by
  cases w with
  | fieldLinkNest a i b n d hh => exact va_Nw.same rfl e h
  | methodLinkNest a i x hh => exact va_Nw.same rfl e h
  | _ => exact absurd hw (by simp [zisN])
theorem zK.calling {g : zG} {U : State} (fr : JFrame) (mk : MethodId) (a : Array Value) (h : zK g U) : zK g (U.calling fr mk a) :=
  ⟨va_K.moved (u := U) (U := U.calling fr mk a) (Vm.Alike.refl U.vm) h.1, fun w hw => zNw_same (u := U) (U := U.calling fr mk a) (List.mem_filter.mp hw).2 rfl (h.2.1 w hw), va_AO.moved (u := U) (U := U.calling fr mk a) (Vm.Alike.refl U.vm) h.2.2.1, va_AO.moved (u := U) (U := U.calling fr mk a) (Vm.Alike.refl U.vm) h.2.2.2.1, va_AO.moved (u := U) (U := U.calling fr mk a) (Vm.Alike.refl U.vm) h.2.2.2.2⟩
def zH (g : zG) (n : Nat) (σ : zS) (H : Heap) : Prop := g.1.2 + 1 + n ≤ H.size ∧ g.1.1 ≤ g.1.2 ∧ va_P g.2.1 vwCl (zW g n σ) H
theorem zH.set {g : zG} {n : Nat} {σ : zS} {H H1 : Heap} {o : Int} {c : zC} (h : zH g n σ H) (hk : 0 < o ∧ o ≤ n) (hP : va_P g.2.1 vwCl ((zW g n σ).set (o - 1).toNat (zad g o, zc g c)) H1) : zH g n (zsu σ o c) H1 := by
  rw [zW_set g σ c hk] at hP
  refine ⟨?_, h.2.1, hP⟩
  have hn : 0 < n := by omega
  have h1 := (hP (n - 1) _ (by rw [zW_get, if_pos (by omega)])).lt
  dsimp only at h1
  omega
def zF (g : zG) : Nat → Prop := fun q => g.1.2 < q
theorem zD (g : zG) (n : Nat) (σ : zS) : va_D (zF g) (zW g n σ) := by
  refine ⟨fun i j p q hi hj e => ?_, fun k q hk => ?_⟩
  · rw [zW_get] at hi hj
    by_cases h1 : i < n
    · by_cases h2 : j < n
      · rw [if_pos h1] at hi
        rw [if_pos h2] at hj
        cases hi
        cases hj
        dsimp only at e
        omega
      · rw [if_neg h2] at hj
        cases hj
    · rw [if_neg h1] at hi
      cases hi
  · rw [zW_get] at hk
    by_cases h1 : k < n
    · rw [if_pos h1] at hk
      cases hk
      show g.1.2 < _
      omega
    · rw [if_neg h1] at hk
      cases hk
/-- the locals, by their places -/
def zg : List (Option zV) → Nat → Option zV
  | [], _ => none
  | o :: _, 0 => o
  | _ :: t, i + 1 => zg t i
def zkill : Option zV → Option zV
  | some (Sum.inr (Sum.inl _)) => none
  | some (Sum.inr (Sum.inr (Sum.inr (Sum.inl _)))) => none
  | o => o
def zs1 : List (Option zV) → Nat → zV → List (Option zV)
  | [], _, _ => []
  | _ :: t, 0, v => some v :: t
  | o :: t, 1, v => zkill o :: zs1 t 0 v
  | o :: t, i + 2, v => o :: zs1 t (i + 1) v
def zhid : List (Option zV) → List (Option zV)
  | [] => []
  | _ :: t => none :: t
def zs2 : List (Option zV) → Nat → zV → List (Option zV)
  | [], _, _ => []
  | _ :: t, 0, v => some v :: zhid t
  | o :: t, 1, v => zkill o :: zs2 t 0 v
  | o :: t, i + 2, v => o :: zs2 t (i + 1) v
def zwide : zV → Bool
  | Sum.inr (Sum.inl _) => true
  | Sum.inr (Sum.inr (Sum.inr (Sum.inl _))) => true
  | _ => false
theorem zcat_wide (g : zG) (v : zV) : (zv g v).category = 2 ↔ zwide v = true := by
  rcases v with x | x | x | x | x
  · simp [zv, zwide, Value.category]
  · simp [zv, zwide, Value.category]
  · cases x <;> simp [zv, zwide, Value.category, va_rf]
  · simp [zv, zwide, Value.category]
  · simp [zv, zwide, Value.category]
theorem zkill_some {o : Option zV} {u : zV} (h : zkill o = some u) : o = some u ∧ zwide u = false := by
  rcases o with _ | (x | x | x | x | x)
  · cases h
  · cases h; exact ⟨rfl, rfl⟩
  · cases h
  · cases h; exact ⟨rfl, rfl⟩
  · cases h
  · cases h; exact ⟨rfl, rfl⟩
theorem zs1_get : ∀ (L : List (Option zV)) (i : Nat) (v : zV) (j : Nat) (u : zV), zg (zs1 L i v) j = some u → (j = i ∧ u = v) ∨ (j ≠ i ∧ zg L j = some u ∧ ¬ (j + 1 = i ∧ zwide u = true))
  | [], i, v, j, u, h => by cases h
  | o :: t, 0, v, 0, u, h => by cases h; exact Or.inl ⟨rfl, rfl⟩
  | o :: t, 0, v, j + 1, u, h => Or.inr ⟨by omega, h, by omega⟩
  | o :: t, 1, v, 0, u, h => by
    have := zkill_some (o := o) (u := u) h
    exact Or.inr ⟨by omega, this.1, fun q => by rw [this.2] at q; exact absurd q.2 (by decide)⟩
  | o :: t, 1, v, j + 1, u, h => by
    rcases zs1_get t 0 v j u h with ⟨a, b⟩ | ⟨a, b, c⟩
    · exact Or.inl ⟨by omega, b⟩
    · exact Or.inr ⟨by omega, b, by omega⟩
  | o :: t, i + 2, v, 0, u, h => Or.inr ⟨by omega, h, by omega⟩
  | o :: t, i + 2, v, j + 1, u, h => by
    rcases zs1_get t (i + 1) v j u h with ⟨a, b⟩ | ⟨a, b, c⟩
    · exact Or.inl ⟨by omega, b⟩
    · exact Or.inr ⟨by omega, b, fun q => c ⟨by omega, q.2⟩⟩
theorem zhid_get (L : List (Option zV)) (j : Nat) (u : zV) (h : zg (zhid L) j = some u) : j ≠ 0 ∧ zg L j = some u := by
  cases L with
  | nil => cases h
  | cons o t =>
    cases j with
    | zero => cases h
    | succ j => exact ⟨by omega, h⟩
theorem zs2_get : ∀ (L : List (Option zV)) (i : Nat) (v : zV) (j : Nat) (u : zV), zg (zs2 L i v) j = some u → (j = i ∧ u = v) ∨ (j ≠ i ∧ j ≠ i + 1 ∧ zg L j = some u ∧ ¬ (j + 1 = i ∧ zwide u = true))
  | [], i, v, j, u, h => by cases h
  | o :: t, 0, v, 0, u, h => by cases h; exact Or.inl ⟨rfl, rfl⟩
  | o :: t, 0, v, j + 1, u, h => by
    have := zhid_get t j u h
    exact Or.inr ⟨by omega, by omega, this.2, by omega⟩
  | o :: t, 1, v, 0, u, h => by
    have := zkill_some (o := o) (u := u) h
    exact Or.inr ⟨by omega, by omega, this.1, fun q => by rw [this.2] at q; exact absurd q.2 (by decide)⟩
  | o :: t, 1, v, j + 1, u, h => by
    rcases zs2_get t 0 v j u h with ⟨a, b⟩ | ⟨a, a2, b, c⟩
    · exact Or.inl ⟨by omega, b⟩
    · exact Or.inr ⟨by omega, by omega, b, by omega⟩
  | o :: t, i + 2, v, 0, u, h => Or.inr ⟨by omega, by omega, h, by omega⟩
  | o :: t, i + 2, v, j + 1, u, h => by
    rcases zs2_get t (i + 1) v j u h with ⟨a, b⟩ | ⟨a, a2, b, c⟩
    · exact Or.inl ⟨by omega, b⟩
    · exact Or.inr ⟨by omega, by omega, b, fun q => c ⟨by omega, q.2⟩⟩
def zlst (g : zG) : Nat → List (Option zV) → List (Nat × Value)
  | _, [] => []
  | i, none :: t => zlst g (i + 1) t
  | i, some v :: t => (i, zv g v) :: zlst g (i + 1) t
theorem zlst_in (g : zG) : ∀ (L : List (Option zV)) (i j : Nat) (u : zV), zg L j = some u → (i + j, zv g u) ∈ zlst g i L
  | [], i, j, u, h => by cases h
  | none :: t, i, 0, u, h => by cases h
  | some v :: t, i, 0, u, h => by cases h; exact List.mem_cons_self
  | none :: t, i, j + 1, u, h => by
    have := zlst_in g t (i + 1) j u h
    rw [show i + (j + 1) = i + 1 + j by omega]
    exact this
  | some v :: t, i, j + 1, u, h => by
    have := zlst_in g t (i + 1) j u h
    rw [show i + (j + 1) = i + 1 + j by omega]
    exact List.mem_cons_of_mem _ this
theorem zlst_of (g : zG) : ∀ (L : List (Option zV)) (i : Nat) (q : Nat × Value), q ∈ zlst g i L → ∃ (j : Nat) (u : zV), q = (i + j, zv g u) ∧ zg L j = some u
  | [], i, q, h => by cases h
  | none :: t, i, q, h => by
    obtain ⟨j, u, e, hu⟩ := zlst_of g t (i + 1) q h
    exact ⟨j + 1, u, by rw [e, show i + (j + 1) = i + 1 + j by omega], hu⟩
  | some v :: t, i, q, h => by
    rcases List.mem_cons.mp h with rfl | h
    · exact ⟨0, v, rfl, rfl⟩
    · obtain ⟨j, u, e, hu⟩ := zlst_of g t (i + 1) q h
      exact ⟨j + 1, u, by rw [e, show i + (j + 1) = i + 1 + j by omega], hu⟩
def zL (g : zG) (ls : Array Slot) (ml : Nat) (L : List (Option zV)) : Prop := lv_has ls ml (zlst g 0 L)
theorem zL.at {g : zG} {ls : Array Slot} {ml : Nat} {L : List (Option zV)} (h : zL g ls ml L) {i : Nat} {v : zV} (hv : zg L i = some v) : ls[i]? = some (.val (zv g v)) := by
  have := h.2.2 _ (zlst_in g L 0 i v hv)
  rwa [Nat.zero_add] at this
theorem zL.of {g : zG} {ls : Array Slot} {ml : Nat} {L : List (Option zV)} {l : List (Nat × Value)} (h : lv_has ls ml l) (hs : ∀ (j : Nat) (u : zV), zg L j = some u → (j, zv g u) ∈ l) : zL g ls ml L := by
  refine ⟨h.1, h.2.1, fun q hq => ?_⟩
  obtain ⟨j, u, e, hu⟩ := zlst_of g L 0 q hq
  rw [Nat.zero_add] at e
  subst e
  exact h.2.2 _ (hs j u hu)
theorem zL.weak {g : zG} {ls : Array Slot} {ml : Nat} {L L' : List (Option zV)} (h : zL g ls ml L) (hs : ∀ (j : Nat) (u : zV), zg L' j = some u → zg L j = some u) : zL g ls ml L' :=
  zL.of h fun j u hu => by
    have := zlst_in g L 0 j u (hs j u hu)
    rwa [Nat.zero_add] at this
theorem zL.st1 {g : zG} {ls : Array Slot} {ml : Nat} {L : List (Option zV)} {i : Nat} {v : zV} (h : lv_has ls ml ((i, zv g v) :: (zlst g 0 L).filter (fun q => !(q.1 == i) && !(q.1 + 1 == i && q.2.category == 2)))) : zL g ls ml (zs1 L i v) := by
  refine zL.of h fun j u hu => ?_
  rcases zs1_get L i v j u hu with ⟨a, b⟩ | ⟨a, b, c⟩
  · subst a; subst b; exact List.mem_cons_self
  · refine List.mem_cons_of_mem _ (List.mem_filter.mpr ⟨?_, ?_⟩)
    · have := zlst_in g L 0 j u b
      rwa [Nat.zero_add] at this
    · simp only [Bool.and_eq_true, Bool.not_eq_true', beq_eq_false_iff_ne, ne_eq, Bool.and_eq_false_iff]
      refine ⟨a, ?_⟩
      by_cases e : j + 1 = i
      · exact Or.inr (fun q => c ⟨e, (zcat_wide g u).mp q⟩)
      · exact Or.inl e
theorem zL.st2 {g : zG} {ls : Array Slot} {ml : Nat} {L : List (Option zV)} {i : Nat} {v : zV} (h : lv_has ls ml ((i, zv g v) :: (zlst g 0 L).filter (fun q => !(q.1 == i) && (!(q.1 == i + 1) && !(q.1 + 1 == i && q.2.category == 2))))) : zL g ls ml (zs2 L i v) := by
  refine zL.of h fun j u hu => ?_
  rcases zs2_get L i v j u hu with ⟨a, b⟩ | ⟨a, a2, b, c⟩
  · subst a; subst b; exact List.mem_cons_self
  · refine List.mem_cons_of_mem _ (List.mem_filter.mpr ⟨?_, ?_⟩)
    · have := zlst_in g L 0 j u b
      rwa [Nat.zero_add] at this
    · simp only [Bool.and_eq_true, Bool.not_eq_true', beq_eq_false_iff_ne, ne_eq, Bool.and_eq_false_iff]
      refine ⟨a, a2, ?_⟩
      by_cases e : j + 1 = i
      · exact Or.inr (fun q => c ⟨e, (zcat_wide g u).mp q⟩)
      · exact Or.inl e
/-! numbers -/
theorem zI_add (a b : Int) : zI (a + b) = zI a + zI b := Int32.ofInt_add a b
theorem zI_sub (a b : Int) : zI (a - b) = zI a - zI b := Int32.ofInt_sub a b
theorem zI_mul (a b : Int) : zI (a * b) = zI a * zI b := Int32.ofInt_mul a b
theorem zI_neg (a : Int) : zI (-a) = -zI a := Int32.ofInt_neg a
theorem zJ_add (a b : Int) : zJ (a + b) = zJ a + zJ b := Int64.ofInt_add a b
theorem zJ_sub (a b : Int) : zJ (a - b) = zJ a - zJ b := Int64.ofInt_sub a b
theorem zJ_mul (a b : Int) : zJ (a * b) = zJ a * zJ b := Int64.ofInt_mul a b
theorem zJ_neg (a : Int) : zJ (-a) = -zJ a := Int64.ofInt_neg a
theorem zI_t {a : Int} (h : -2147483648 ≤ a ∧ a < 2147483648) : (zI a).toInt = a := Int32.toInt_ofInt_of_le h.1 h.2
theorem zJ_t {a : Int} (h : -9223372036854775808 ≤ a ∧ a < 9223372036854775808) : (zJ a).toInt = a := Int64.toInt_ofInt_of_le h.1 h.2
theorem zI_to (x : Int32) : zI x.toInt = x := Int32.ofInt_toInt x
theorem zJ_to (x : Int64) : zJ x.toInt = x := Int64.ofInt_toInt x
theorem zI_lt {a b : Int} (h : (-2147483648 ≤ a ∧ a < 2147483648) ∧ (-2147483648 ≤ b ∧ b < 2147483648)) : zI a < zI b ↔ a < b := by
  rw [Int32.lt_iff_toInt_lt, zI_t h.1, zI_t h.2]
theorem zI_le {a b : Int} (h : (-2147483648 ≤ a ∧ a < 2147483648) ∧ (-2147483648 ≤ b ∧ b < 2147483648)) : zI a ≤ zI b ↔ a ≤ b := by
  rw [Int32.le_iff_toInt_le, zI_t h.1, zI_t h.2]
theorem zI_eq {a b : Int} (h : (-2147483648 ≤ a ∧ a < 2147483648) ∧ (-2147483648 ≤ b ∧ b < 2147483648)) : zI a = zI b ↔ a = b := by
  refine ⟨fun e => ?_, fun e => by rw [e]⟩
  have := congrArg Int32.toInt e
  rwa [zI_t h.1, zI_t h.2] at this
theorem zJ_lt {a b : Int} (h : (-9223372036854775808 ≤ a ∧ a < 9223372036854775808) ∧ (-9223372036854775808 ≤ b ∧ b < 9223372036854775808)) : zJ a < zJ b ↔ a < b := by
  rw [Int64.lt_iff_toInt_lt, zJ_t h.1, zJ_t h.2]
theorem zJ_eq {a b : Int} (h : (-9223372036854775808 ≤ a ∧ a < 9223372036854775808) ∧ (-9223372036854775808 ≤ b ∧ b < 9223372036854775808)) : zJ a = zJ b ↔ a = b := by
  refine ⟨fun e => ?_, fun e => by rw [e]⟩
  have := congrArg Int64.toInt e
  rwa [zJ_t h.1, zJ_t h.2] at this
theorem zI_0 : zI 0 = 0 := rfl
theorem zI_in {i : Int} {L : Nat} (h : 0 ≤ i ∧ i < L) (hL : L < 2147483648) : vp_in (zI i) L := by
  rw [vp_in_iff, zI_t (by omega)]
  exact h
theorem zI_cl {i : Int} (h : 0 ≤ i ∧ i < 2147483648) : (zI i).toNatClampNeg = i.toNat := by
  show (zI i).toInt.toNat = _
  rw [zI_t (by omega)]
theorem zI_upd (f : Int → Int) {i : Int} (x : Int) (h : 0 ≤ i) : upd (fun j : Nat => zI (f (j : Int))) i.toNat (zI x) = fun j : Nat => zI (zu f i x (j : Int)) := by
  funext j
  unfold upd zu
  by_cases e : j = i.toNat
  · rw [if_pos e, if_pos (by omega)]
  · rw [if_neg e, if_neg (by omega)]
theorem zI_upq (g : zG) (f : Int → Option Int) {i : Int} (x : Int) (h : 0 ≤ i) : va_up (fun j : Nat => (f (j : Int)).map (zad g)) i.toNat (some (zad g x)) = fun j : Nat => (zuq f i (some x) (j : Int)).map (zad g) := by
  funext j
  unfold va_up zuq
  by_cases e : j = i.toNat
  · rw [if_pos e, if_pos (by omega)]; rfl
  · rw [if_neg e, if_neg (by omega)]

theorem zI_ne0 {b : Int} (h : -2147483648 ≤ b ∧ b < 2147483648) (h0 : b ≠ 0) : ¬ zI b = 0 := by
  intro e
  have := (zI_eq (a := b) (b := 0) ⟨h, by omega⟩).mp e
  exact h0 this
theorem zI_divs {a b : Int} (ha : -2147483648 < a ∧ a < 2147483648) (hb : -2147483648 ≤ b ∧ b < 2147483648) : zI a / zI b = zI (a.tdiv b) := by
  apply Int32.toInt_inj.mp
  rw [Int32.toInt_div_of_ne_left, zI_t (by omega), zI_t hb]
  · by_cases h0 : b = 0
    · subst h0
      rw [Int.tdiv_zero]
      rfl
    · have h1 := Int.natAbs_tdiv_le_natAbs a b
      rw [zI_t (by omega)]
  · intro e
    have := congrArg Int32.toInt e
    rw [zI_t (by omega)] at this
    have h2 : Int32.minValue.toInt = -2147483648 := by decide
    omega
theorem zI_div {a b : Int} (ha : 0 ≤ a ∧ a < 2147483648) (hb : 0 < b ∧ b < 2147483648) : zI a / zI b = zI (a / b) := by
  rw [zI_divs (by omega) (by omega), Int.tdiv_eq_ediv_of_nonneg ha.1]
theorem zI_rems {a b : Int} (ha : -2147483648 < a ∧ a < 2147483648) (hb : -2147483648 ≤ b ∧ b < 2147483648) : zI a - zI a / zI b * zI b = zI (a.tmod b) := by
  rw [zI_divs ha hb, ← zI_mul, ← zI_sub]
  congr 1
  have := Int.mul_tdiv_add_tmod a b
  rw [Int.mul_comm] at this
  omega
theorem zI_rem {a b : Int} (ha : 0 ≤ a ∧ a < 2147483648) (hb : 0 < b ∧ b < 2147483648) : zI a - zI a / zI b * zI b = zI (a % b) := by
  rw [zI_rems (by omega) (by omega), Int.tmod_eq_emod_of_nonneg ha.1]
theorem zI_mod {a b : Int} (h : a % 4294967296 = b % 4294967296) : zI a = zI b := by
  apply Int32.toInt_inj.mp
  show (Int32.ofInt a).toInt = (Int32.ofInt b).toInt
  rw [Int32.toInt_ofInt, Int32.toInt_ofInt]
  have e : Int32.size = 4294967296 := rfl
  rw [e]
  unfold Int.bmod
  rw [show ((4294967296 : Nat) : Int) = 4294967296 from rfl, h]
theorem zJ_mod {a b : Int} (h : a % 18446744073709551616 = b % 18446744073709551616) : zJ a = zJ b := by
  apply Int64.toInt_inj.mp
  show (Int64.ofInt a).toInt = (Int64.ofInt b).toInt
  rw [Int64.toInt_ofInt, Int64.toInt_ofInt]
  have e : Int64.size = 18446744073709551616 := rfl
  rw [e]
  unfold Int.bmod
  rw [show ((18446744073709551616 : Nat) : Int) = 18446744073709551616 from rfl, h]
theorem zI_bv (a : Int) : (zI a).toBitVec = BitVec.ofInt 32 a := rfl
theorem zJ_bv (a : Int) : (zJ a).toBitVec = BitVec.ofInt 64 a := rfl
def zand (a b : Int) : Int := (zI a &&& zI b).toInt
def zor (a b : Int) : Int := (zI a ||| zI b).toInt
def zandl (a b : Int) : Int := (zJ a &&& zJ b).toInt
def zorl (a b : Int) : Int := (zJ a ||| zJ b).toInt
theorem zI_and (a b : Int) : zI (zand a b) = zI a &&& zI b := zI_to _
theorem zI_or (a b : Int) : zI (zor a b) = zI a ||| zI b := zI_to _
theorem zJ_and (a b : Int) : zJ (zandl a b) = zJ a &&& zJ b := zJ_to _
theorem zJ_or (a b : Int) : zJ (zorl a b) = zJ a ||| zJ b := zJ_to _
theorem zI_l {a : Int} (h : -2147483648 ≤ a ∧ a < 2147483648) : (zI a).toInt64 = zJ a := by
  apply Int64.toInt_inj.mp
  rw [Int32.toInt_toInt64, zI_t h, zJ_t (by omega)]
theorem zJ_cmp {a b : Int} (h : (-9223372036854775808 ≤ a ∧ a < 9223372036854775808) ∧ (-9223372036854775808 ≤ b ∧ b < 9223372036854775808)) : ∃ r : Int, lg_cmp (zJ a) (zJ b) = zI r ∧ ((a < b ∧ r = -1) ∨ (a = b ∧ r = 0) ∨ (b < a ∧ r = 1)) := by
  have h2 := And.intro h.2 h.1
  rcases Int.lt_trichotomy a b with q | q | q
  · refine ⟨-1, ?_, Or.inl ⟨q, rfl⟩⟩
    have h1 : ¬ zJ b < zJ a := fun z => by have := (zJ_lt h2).mp z; omega
    have h3 : ¬ zJ a = zJ b := fun z => by have := (zJ_eq h).mp z; omega
    simp [lg_cmp, h1, h3]
    rfl
  · subst q
    refine ⟨0, ?_, Or.inr (Or.inl ⟨rfl, rfl⟩)⟩
    simp [lg_cmp]
    rfl
  · refine ⟨1, ?_, Or.inr (Or.inr ⟨q, rfl⟩)⟩
    have h1 : zJ b < zJ a := (zJ_lt h2).mpr q
    simp [lg_cmp, h1]
    rfl
def zb (b : Bool) : Int := if b then 1 else 0
theorem zb_01 (b : Bool) : zb b = 0 ∨ zb b = 1 := by cases b <;> simp [zb]
theorem zI_c {a : Int} (h : 0 ≤ a ∧ a < 65536) : ((zI a).toUInt32 % 65536).toInt32 = zI a := by
  obtain ⟨k, rfl⟩ : ∃ k : Nat, a = k := ⟨a.toNat, by omega⟩
  have e : zI (k : Int) = nI k := Int32.ofInt_eq_ofNat
  rw [e, pk_char, pk_tn (by omega), Nat.mod_eq_of_lt (by omega)]
end
section
/-! shifts -/
theorem zmm (a : Int) (M p : Nat) (hM : 0 < M) : ((a % (M : Int)).toNat * p) % M = ((a * (p : Int)) % (M : Int)).toNat := by
  have h1 : (0 : Int) ≤ a % (M : Int) := Int.emod_nonneg _ (by omega)
  obtain ⟨r, hr⟩ : ∃ r : Nat, a % (M : Int) = r := ⟨(a % (M : Int)).toNat, by omega⟩
  have e : (a * (p : Int)) % (M : Int) = ((r * p % M : Nat) : Int) := by
    rw [Int.mul_emod, hr, Int.natCast_emod, Int.natCast_mul, Int.mul_emod (r : Int) (p : Int), Int.mul_emod (r : Int) ((p : Int) % (M : Int)), Int.emod_emod_of_dvd _ (Int.dvd_refl _)]
  rw [e, hr, Int.toNat_natCast, Int.toNat_natCast]
theorem zsh32 : ∀ k : Nat, k < 32 → ((zI (k : Int)) &&& 31).toBitVec.smod 32 = BitVec.ofNat 32 k := by decide +kernel
theorem zsh64 : ∀ k : Nat, k < 64 → ((zI (k : Int)).toInt64 &&& 63).toBitVec.smod 64 = BitVec.ofNat 64 k := by decide +kernel
theorem zsu64 : ∀ k : Nat, k < 64 → ((zI (k : Int)).toInt64.toUInt64 &&& Int64.toUInt64 63).toNat % 64 = k := by decide +kernel
theorem zI_shl (a : Int) {b : Int} (h : 0 ≤ b ∧ b < 32) : zI a <<< (zI b &&& 31) = zI (a * 2 ^ b.toNat) := by
  obtain ⟨k, rfl⟩ : ∃ k : Nat, b = k := ⟨b.toNat, by omega⟩
  have hk : k < 32 := by omega
  rw [Int.toNat_natCast]
  apply Int32.toBitVec_inj.mp
  apply BitVec.eq_of_toNat_eq
  rw [pk_shl _ _ k (by rw [zsh32 k hk, BitVec.toNat_ofNat, Nat.mod_eq_of_lt (by omega)]), zI_bv, zI_bv, BitVec.toNat_ofInt, BitVec.toNat_ofInt, zmm _ _ _ (by decide), Int.natCast_pow]
  rfl
theorem zI_shr {a b : Int} (ha : -2147483648 ≤ a ∧ a < 2147483648) (h : 0 ≤ b ∧ b < 32) : zI a >>> (zI b &&& 31) = zI (a / 2 ^ b.toNat) := by
  obtain ⟨k, rfl⟩ : ∃ k : Nat, b = k := ⟨b.toNat, by omega⟩
  have hk : k < 32 := by omega
  rw [Int.toNat_natCast]
  have hp : (0 : Int) < 2 ^ k := Int.pow_pos (by decide)
  have hb : -2147483648 ≤ a / 2 ^ k ∧ a / 2 ^ k < 2147483648 := by
    rcases Int.lt_or_le a 0 with h0 | h0
    · have h1 : a ≤ a / 2 ^ k := by
        apply Int.le_ediv_of_mul_le hp
        have : a * 2 ^ k ≤ a * 1 := Int.mul_le_mul_of_nonpos_left (by omega) (by omega)
        omega
      have h2 : a / 2 ^ k < 0 := Int.ediv_neg_of_neg_of_pos h0 hp
      omega
    · have h1 : a / 2 ^ k ≤ a := Int.ediv_le_self _ h0
      have h2 : 0 ≤ a / 2 ^ k := Int.ediv_nonneg h0 (by omega)
      omega
  apply Int32.toInt_inj.mp
  rw [pk_shr _ _ k (by rw [zsh32 k hk, BitVec.toNat_ofNat, Nat.mod_eq_of_lt (by omega)]), zI_t ha, zI_t hb, Int.shiftRight_eq_div_pow, Int.natCast_pow]
  rfl
theorem zJ_shl (a : Int) {b : Int} (h : 0 ≤ b ∧ b < 64) : zJ a <<< ((zI b).toInt64 &&& 63) = zJ (a * 2 ^ b.toNat) := by
  obtain ⟨k, rfl⟩ : ∃ k : Nat, b = k := ⟨b.toNat, by omega⟩
  have hk : k < 64 := by omega
  rw [Int.toNat_natCast]
  apply Int64.toBitVec_inj.mp
  apply BitVec.eq_of_toNat_eq
  rw [Int64.toBitVec_shiftLeft, zsh64 k hk, BitVec.shiftLeft_eq', BitVec.toNat_shiftLeft, Nat.shiftLeft_eq, BitVec.toNat_ofNat, Nat.mod_eq_of_lt (show k < 2 ^ 64 by omega), zJ_bv, zJ_bv, BitVec.toNat_ofInt, BitVec.toNat_ofInt, zmm _ _ _ (by decide), Int.natCast_pow]
  rfl
theorem zJ_shr {a b : Int} (ha : -9223372036854775808 ≤ a ∧ a < 9223372036854775808) (h : 0 ≤ b ∧ b < 64) : zJ a >>> ((zI b).toInt64 &&& 63) = zJ (a / 2 ^ b.toNat) := by
  obtain ⟨k, rfl⟩ : ∃ k : Nat, b = k := ⟨b.toNat, by omega⟩
  have hk : k < 64 := by omega
  rw [Int.toNat_natCast]
  have hp : (0 : Int) < 2 ^ k := Int.pow_pos (by decide)
  have hb : -9223372036854775808 ≤ a / 2 ^ k ∧ a / 2 ^ k < 9223372036854775808 := by
    rcases Int.lt_or_le a 0 with h0 | h0
    · have h1 : a ≤ a / 2 ^ k := by
        apply Int.le_ediv_of_mul_le hp
        have : a * 2 ^ k ≤ a * 1 := Int.mul_le_mul_of_nonpos_left (by omega) (by omega)
        omega
      have h2 : a / 2 ^ k < 0 := Int.ediv_neg_of_neg_of_pos h0 hp
      omega
    · have h1 : a / 2 ^ k ≤ a := Int.ediv_le_self _ h0
      have h2 : 0 ≤ a / 2 ^ k := Int.ediv_nonneg h0 (by omega)
      omega
  apply Int64.toInt_inj.mp
  show ((zJ a).toBitVec.sshiftRight (((zI (k : Int)).toInt64 &&& 63).toBitVec.smod 64).toNat).toInt = _
  rw [zsh64 k hk, BitVec.toNat_ofNat, Nat.mod_eq_of_lt (show k < 2 ^ 64 by omega), BitVec.toInt_sshiftRight, Int.shiftRight_eq_div_pow]
  show (zJ a).toInt / _ = _
  rw [zJ_t ha, zJ_t hb, Int.natCast_pow]
  rfl
theorem zJ_ushr (a : Int) {b : Int} (h : 0 ≤ b ∧ b < 64) : ((zJ a).toUInt64 >>> ((zI b).toInt64.toUInt64 &&& Int64.toUInt64 63)).toInt64 = zJ ((a % 18446744073709551616) / 2 ^ b.toNat) := by
  obtain ⟨k, rfl⟩ : ∃ k : Nat, b = k := ⟨b.toNat, by omega⟩
  have hk : k < 64 := by omega
  rw [Int.toNat_natCast]
  apply Int64.toBitVec_inj.mp
  apply BitVec.eq_of_toNat_eq
  show ((zJ a).toUInt64 >>> ((zI (k : Int)).toInt64.toUInt64 &&& Int64.toUInt64 63)).toNat = _
  rw [UInt64.toNat_shiftRight, zsu64 k hk, Nat.shiftRight_eq_div_pow, zJ_bv, BitVec.toNat_ofInt]
  show (zJ a).toBitVec.toNat / _ = _
  rw [zJ_bv, BitVec.toNat_ofInt]
  obtain ⟨r, hr⟩ : ∃ r : Nat, a % 18446744073709551616 = r := ⟨(a % 18446744073709551616).toNat, by omega⟩
  have hrl : r < 18446744073709551616 := by omega
  have e1 : a % ((2 ^ 64 : Nat) : Int) = (r : Int) := hr
  have e2 : (r : Int) / 2 ^ k = ((r / 2 ^ k : Nat) : Int) := by rw [Int.natCast_ediv, Int.natCast_pow]; rfl
  rw [e1, hr, e2, Int.toNat_natCast]
  have h3 : r / 2 ^ k ≤ r := Nat.div_le_self _ _
  generalize r / 2 ^ k = z at h3 ⊢
  rw [Int.emod_eq_of_lt (by omega) (by show (z : Int) < 18446744073709551616; omega), Int.toNat_natCast]
end
section
/-! contracts, and the judgement of a method's body -/
abbrev zRT : Type := Option zV → Nat → zS → Nat → Prop
abbrev zKT : Type := Nat → List (Option zV) → List zV → Nat → zS → Nat → Prop
def zPre (g : zG) (n : Nat) (σ : zS) (as : List zV) : Array Value → State → Prop := va_Pc (as.map (zv g)) (fun U => U.heap.size = g.1.2 + 1 + n ∧ zH g n σ U.heap ∧ zK g U)
def zPost (g : zG) (r : Option zV) (n : Nat) (σ : zS) : Array Value → State → Outcome → State → Prop := fun _ s o t => o = .returned (r.map (zv g)) ∧ zH g n σ t.heap ∧ va_F (zF g) s t
def zRm (h mc ms : Nat) : Room := { frames := h, cells := mc, slots := ms, locals := 64 * h }
def zCt (h mc ms : Nat) (y : MethodName) (cc : ByteArray) (ml : Nat) (ret : Option FieldType) (as : List zV) (n : Nat) (σ : zS) (r : Option zV) (n' : Nat) (σ' : zS) : Prop :=
  ∀ (l : Launch) (g : zG), Met l y (Cond.code y cc ml ret :: zGW) (zRm h mc ms) (zPre g n σ as) (zPost g r n' σ') mc ms (zF g)
def zRt (cc : ByteArray) (ret : Option FieldType) (v : Option zV) (pc : Nat) (st : List zV) : Prop :=
  (decode cc pc = .ok (.return_, 1) ∧ ret = none ∧ v = none ∧ st = []) ∨ (decode cc pc = .ok (.ireturn, 1) ∧ ret = some .int ∧ ∃ x : Int, v = some (zi x) ∧ st = [zi x]) ∨
  (decode cc pc = .ok (.ireturn, 1) ∧ ret = some .boolean ∧ ∃ x : Int, (x = 0 ∨ x = 1) ∧ v = some (zi x) ∧ st = [zi x]) ∨ (decode cc pc = .ok (.lreturn, 1) ∧ ret = some .long ∧ ∃ x : Int, v = some (zl x) ∧ st = [zl x])
def zX (y : MethodName) (cc : ByteArray) (ml : Nat) (ret : Option FieldType) (h mc ms n0 : Nat) (Ret : zRT) (K : zKT) : Prop :=
  ∃ (p : Program) (l : Launch) (e : Env) (R : Room) (s : State) (m : MethodId) (args : Array Value) (below : List Frame) (meth : Method) (c : Code) (Q : State → Prop) (g : zG),
    (p.tables.exec = Jvm.exec ∧ c.code = cc ∧ c.maxLocals = ml ∧ s.vm.findClass y.cls = some m.cls ∧ (∀ w ∈ zGW, w.before args s = true) ∧ zK g s ∧ meth.name = y.name) ∧
    (h ≤ R.frames ∧ 64 * h ≤ R.locals ∧ mc ≤ R.cells ∧ ms ≤ R.slots) ∧ s.heap.size = g.1.2 + 1 + n0 ∧
    K = (fun pc Lo st n σ w => ∀ (ls : Array Slot) (H : Heap) (locs : List Loc), (n0 ≤ n ∧ n - n0 ≤ mc ∧ w ≤ ms) → zL g ls ml Lo → zH g n σ H → va_S (zF g) s.heap H locs → W p l e R s m args below meth c H locs (n - n0) w Q (F0 m pc ls (st.map (zv g)))) ∧
    (∀ v pc Lo st n σ w, zRt cc ret v pc st → Ret v n σ w → K pc Lo st n σ w)
/-- a value's slots -/
def zsl : List zV → List (Option zV)
  | [] => []
  | v :: t => if zwide v then some v :: none :: zsl t else some v :: zsl t
def zen (ml : Nat) (as : List zV) : List (Option zV) := zsl as ++ List.replicate (ml - (zsl as).length) none
theorem zsl_len (g : zG) : ∀ as : List zV, (lg_sl (as.map (zv g))).length = (zsl as).length
  | [] => rfl
  | v :: t => by
    have ih := zsl_len g t
    by_cases h : zwide v = true
    · have hc := (zcat_wide g v).mpr h
      simp [lg_sl, zsl, h, hc] at ih ⊢
      omega
    · have hc : ¬ (zv g v).category = 2 := fun q => h ((zcat_wide g v).mp q)
      simp [lg_sl, zsl, h, hc] at ih ⊢
      omega
theorem zsl_args (g : zG) : ∀ (as : List zV) (i j : Nat) (u : zV), zg (zsl as) j = some u → (i + j, zv g u) ∈ lv_args i (as.map (zv g))
  | [], i, j, u, h => by cases h
  | v :: t, i, j, u, h => by
    by_cases hw : zwide v = true
    · have hc := (zcat_wide g v).mpr hw
      have e : zsl (v :: t) = some v :: none :: zsl t := by simp [zsl, hw]
      rw [e] at h
      match j, h with
      | 0, h => cases h; simp [lv_args]
      | 1, h => cases h
      | j + 2, h =>
        have := zsl_args g t (i + 2) j u h
        simp only [List.map_cons, lv_args, hc]
        rw [show i + (j + 2) = i + 2 + j by omega]
        exact List.mem_cons_of_mem _ this
    · have hc : (zv g v).category = 1 := (lv_cat _).resolve_right (fun q => hw ((zcat_wide g v).mp q))
      have e : zsl (v :: t) = some v :: zsl t := by simp [zsl, hw]
      rw [e] at h
      match j, h with
      | 0, h => cases h; simp [lv_args]
      | j + 1, h =>
        have := zsl_args g t (i + 1) j u h
        simp only [List.map_cons, lv_args, hc]
        rw [show i + (j + 1) = i + 1 + j by omega]
        exact List.mem_cons_of_mem _ this
theorem zg_app : ∀ (a b : List (Option zV)) (j : Nat) (u : zV), (∀ o ∈ b, o = none) → zg (a ++ b) j = some u → zg a j = some u
  | [], b, j, u, hb, h => by
    exfalso
    have : ∀ (b : List (Option zV)) (j : Nat), (∀ o ∈ b, o = none) → zg b j = some u → False := by
      intro b
      induction b with
      | nil => intro j _ h; cases h
      | cons o t ih =>
        intro j hb h
        cases j with
        | zero =>
          have e : o = none := hb o List.mem_cons_self
          subst e
          cases h
        | succ j => exact ih j (fun o ho => hb o (List.mem_cons_of_mem _ ho)) h
    exact this b j hb h
  | o :: t, b, 0, u, hb, h => h
  | o :: t, b, j + 1, u, hb, h => zg_app t b j u hb h
theorem zen_L (g : zG) {ml : Nat} {as : List zV} (h : (zsl as).length ≤ ml) : zL g ((lg_sl (as.map (zv g)) ++ List.replicate (ml - (lg_sl (as.map (zv g))).length) Slot.unset).toArray) ml (zen ml as) := by
  refine zL.of (lv_entry (as.map (zv g)) (by rw [zsl_len]; exact h)) fun j u hu => ?_
  have h1 : zg (zsl as) j = some u := zg_app _ _ _ _ (fun o ho => (List.mem_replicate.mp ho).2) hu
  have h2 := zsl_args g as 0 j u h1
  rwa [Nat.zero_add] at h2
theorem zCt.of {h mc ms : Nat} {y : MethodName} {cc : ByteArray} {ml : Nat} {ret : Option FieldType} {as : List zV} {n : Nat} {σ : zS} {r : Option zV} {n' : Nat} {σ' : zS} (hy : plainName y.cls = true) (hn : n' = n + mc) (ha : (zsl as).length ≤ ml)
    (body : ∀ K : zKT, zX y cc ml ret h mc ms n (fun v n1 σ1 w => v = r ∧ n1 = n' ∧ σ1 = σ' ∧ w = ms) K → K 0 (zen ml as) [] n σ 0) : zCt h mc ms y cc ml ret as n σ r n' σ' := by
  intro l g
  refine Met.ofW (cc := cc) (maxL := ml) (ret := ret) hy rfl ?_
  intro p e s m args below meth c s₁ B hml hv
  obtain ⟨rfl, hz, hH, hK⟩ := hv
  have hx := B.exec
  have hb := B.bytes
  have hr := B.returns
  have hts := atoms_spec (ws := Cond.code y cc ml ret :: zGW) B.pre
  have hown : s.vm.findClass y.cls = some m.cls := findClass_of_methodNamed B.named
  have hlocks := B.notSynchronized
  have hin : meth.name = y.name := (name_of_methodNamed B.named B.method).1
  have key := body _ ⟨p, l, e, (headSpec (Cond.code y cc ml ret :: zGW) (zRm h mc ms)).room, s, m, (as.map (zv g)).toArray, below, meth, c, MQ below (zPost g r n' σ') (as.map (zv g)).toArray s mc ms (zF g), g,
    ⟨hx, hb, hml, hown, fun w hw => hts w (List.mem_cons_of_mem _ hw), hK, hin⟩, ⟨Nat.le_refl _, Nat.le_refl _, Nat.le_refl _, Nat.le_refl _⟩, hz, rfl, ?_⟩
  · have k := key _ s.heap [] ⟨Nat.le_refl _, by omega, Nat.zero_le _⟩ (zen_L g ha) hH va_S.rf
    rw [Nat.sub_self] at k
    rw [lg_entry_eq]
    exact k
  · intro v pc Lo st n1 σ1 w hrt hR ls H locs hn1 hl hP hS
    obtain ⟨rfl, rfl, rfl, rfl⟩ := hR
    have e : n1 - n = mc := by omega
    rw [e]
    rcases hrt with ⟨d, rfl, rfl, rfl⟩ | ⟨d, rfl, x, rfl, rfl⟩ | ⟨d, rfl, x, hx01, rfl, rfl⟩ | ⟨d, rfl, x, rfl, rfl⟩
    · exact W.vret hx hb hr (fun t ht _ => ⟨rfl, by rw [ht]; exact hP, hS.F ht⟩) hS.2.2 d
    · exact W.iret hx hb hr (fun t ht _ => ⟨rfl, by rw [ht]; exact hP, hS.F ht⟩) hS.2.2 d
    · refine W.zret hx hb hr ?_ (fun t ht _ => ⟨rfl, by rw [ht]; exact hP, hS.F ht⟩) hS.2.2 d
      rcases hx01 with rfl | rfl <;> rfl
    · exact W.lret hx hb hr (fun t ht _ => ⟨rfl, by rw [ht]; exact hP, hS.F ht⟩) hS.2.2 d
/-- words of a method that is called -/
def zOk (y : MethodName) (cc : ByteArray) (ml : Nat) (ret : Option FieldType) (na : Nat) : Prop :=
  (y.cls ≠ "java/lang/invoke/MethodHandle" ∧ y.cls ≠ "java/lang/invoke/VarHandle") ∧ (parseMethodDescriptor y.desc).map (fun d => d.parameters.length) = some na ∧ ml ≤ 40 ∧ Cond.code y cc ml ret ∈ zGW ∧ Cond.initialized y.cls ∈ zGW
def zLs (own : String) (idx : Nat) (y : MethodName) : Prop := Cond.methodLink own idx y ∈ zGW ∧ Cond.static y ∈ zGW
def zLv (own : String) (idx : Nat) (y : MethodName) : Prop := Cond.methodLink own idx y ∈ zGW ∧ Cond.instanceMethod y ∈ zGW ∧ Cond.selects y.cls y y ∈ zGW
def zLi (own : String) (idx : Nat) (y : MethodName) : Prop := Cond.methodLink own idx y ∈ zGW ∧ Cond.instanceMethod y ∈ zGW ∧ y.name = "<init>"
def zNs (own : String) (idx : Nat) (y : MethodName) : Prop := Cond.methodLinkNest own idx y "BlockTrees" ∈ zNW ∧ Cond.static y ∈ zGW
def zNv (own : String) (idx : Nat) (y : MethodName) : Prop := Cond.methodLinkNest own idx y "BlockTrees" ∈ zNW ∧ Cond.instanceMethod y ∈ zGW ∧ Cond.selects y.cls y y ∈ zGW
def zNi (own : String) (idx : Nat) (y : MethodName) : Prop := Cond.methodLinkNest own idx y "BlockTrees" ∈ zNW ∧ Cond.instanceMethod y ∈ zGW ∧ y.name = "<init>"
def zFl (own : String) (idx ci j : Nat) : Prop := ∃ (C : String) (T : u_T) (N : Nat), vwCl[ci]? = some (C, T, N) ∧ j < N ∧ Cond.fieldLink own idx (T j).1 (T j).2.1 (T j).2.2.1 ∈ zGW ∧ ∀ w ∈ u_ws C T N, w ∈ zGW
def zFn (own : String) (idx ci j : Nat) : Prop := ∃ (C : String) (T : u_T) (N : Nat), vwCl[ci]? = some (C, T, N) ∧ j < N ∧ Cond.fieldLinkNest own idx (T j).1 (T j).2.1 (T j).2.2.1 "BlockTrees" ∈ zNW ∧ ∀ w ∈ u_ws C T N, w ∈ zGW
/-- what putfield asks besides -/
def zFy (ci j : Nat) (fin : Bool) (ty : FieldType) : Prop := ∀ (C : String) (T : u_T) (N : Nat), vwCl[ci]? = some (C, T, N) → (∃ ty0 : Nat → FieldType, ∀ k, k < N → parseFieldDescriptor (T k).2.2.1 = some (ty0 k)) ∧ (∀ a, a < N → ∀ b, b < N → a ≠ b → (T a).2.1 ≠ (T b).2.1) ∧ (T j).2.2.2 = fin ∧ (T j).1 = C ∧ parseFieldDescriptor (T j).2.2.1 = some ty
def zcat (st : List zV) : Nat := (st.map fun v => if zwide v then 2 else 1).sum
theorem zcat_eq (g : zG) : ∀ st : List zV, ((st.map (zv g)).map fun v => v.category).sum = zcat st
  | [] => rfl
  | v :: t => by
    have ih := zcat_eq g t
    by_cases h : zwide v = true
    · have hc := (zcat_wide g v).mpr h
      simp [zcat, h, hc] at ih ⊢
      exact ih
    · have hc : (zv g v).category = 1 := (lv_cat _).resolve_right (fun q => h ((zcat_wide g v).mp q))
      simp [zcat, h, hc] at ih ⊢
      exact ih

theorem zrun {p : Program} {l : Launch} {e : Env} {R : Room} {s : State} {m : MethodId} {args : Array Value} {below : List Frame} {meth : Method} {c : Code} {H : Heap} {locs : List Loc} {cells slots mc ms pc : Nat} {ls : Array Slot} {Q : State → Prop} {stk rest : List Value} {g : zG} {r : Option zV} {n' : Nat} {σ' : zS} {a : Array Value}
    (hr : va_Run p l e R s m args below meth c H locs cells slots mc ms (F0 m pc ls stk) rest (zPost g r n' σ' a) (zF g)) (hS : va_S (zF g) s.heap H locs)
    (kk : ∀ (H1 : Heap) (locs1 : List Loc), zH g n' σ' H1 → va_S (zF g) s.heap H1 locs1 → W p l e R s m args below meth c H1 locs1 (cells + mc) (slots + ms) Q (F0 m (pc + 3) ls ((r.map (zv g)).toList ++ rest))) : W p l e R s m args below meth c H locs cells slots Q (F0 m pc ls stk) := by
  intro T hT X
  obtain ⟨v, st₀, t, T', L, h0, X', hL, e1, e2, hQ, st⟩ := hr T hT X
  obtain ⟨hv, hH1, hz, hk⟩ := hQ
  have hv2 : v = r.map (zv g) := by injection hv
  subst hv2
  rw [h0] at hz hk
  obtain ⟨t2, a1, b1⟩ := kk T'.heap (locs ++ L) (by rw [e1]; exact hH1)
    ⟨Nat.le_trans hS.1 (by rw [e1]; exact hz), fun q h1 h2 => by rw [e1, hk q (Nat.lt_of_lt_of_le h1 hS.1) h2]; exact hS.2.1 q h1 h2, fun q hq => by
      rcases List.mem_append.mp hq with h | h
      · exact hS.2.2 q h
      · exact hL q h⟩ T' rfl X'
  exact ⟨t2, st t2 a1, b1⟩
theorem zI_c2 {a : Int} (h : 0 ≤ a ∧ a < 65536) : (zI a).toUInt32.toUInt16.toUInt32.toInt32 = zI a := by
  have h1 := zI_c h
  obtain ⟨k, rfl⟩ : ∃ k : Nat, a = k := ⟨a.toNat, by omega⟩
  apply Int32.toBitVec_inj.mp
  apply BitVec.eq_of_toNat_eq
  have e := congrArg (fun z : Int32 => z.toBitVec.toNat) h1
  try dsimp only at e
  rw [← e]
  simp
theorem zq_eq {g : zG} {n : Nat} {σ : zS} {q : Nat} {x : va_E} {H1 : Heap} (hD : va_D (zF g) (zW g n σ ++ [(q, x)])) (hP : va_P g.2.1 vwCl (zW g n σ ++ [(q, x)]) H1) (hz : H1.size ≤ g.1.2 + 1 + (n + 1)) : q = g.1.2 + (n + 1) := by
  have hq : (zW g n σ ++ [(q, x)])[n]? = some (q, x) := by
    rw [List.getElem?_append_right (by rw [zW_len]; omega), zW_len, Nat.sub_self]
    rfl
  have h1 := (hP n _ hq).lt
  have h2 : g.1.2 < q := hD.2 n _ hq
  dsimp only at h1 h2
  rcases Nat.lt_or_ge q (g.1.2 + (n + 1)) with h3 | h3
  · have h4 : (zW g n σ ++ [(q, x)])[q - (g.1.2 + 1)]? = some (q, zc g (σ (((q - (g.1.2 + 1) : Nat) : Int) + 1))) := by
      rw [List.getElem?_append_left (by rw [zW_len]; omega), zW_get, if_pos (by omega)]
      congr 2
      omega
    have h5 := hD.1 _ _ _ _ hq h4 rfl
    omega
  · omega
end
section
set_option maxHeartbeats 2000000 in
theorem x_iconst {y : MethodName} {cc : ByteArray} {ml : Nat} {ret : Option FieldType} {h mc ms n0 : Nat} {Ret : zRT} {K : zKT} (C : zX y cc ml ret h mc ms n0 Ret K) {pc : Nat} {Lo : List (Option zV)} {st : List zV} {n : Nat} {σ : zS} {w : Nat} {v : Int} (d : decode cc pc = .ok (.iconst v, 1)) (k : K (pc + 1) Lo (zi v :: st) n σ w) : K pc Lo st n σ w := by
  obtain ⟨p, l, e, R, s, m, args, below, meth, c, Q, g, ⟨hx, hb, hml, hown, hts, hK, hin⟩, hR, hsz, rfl, hrt⟩ := C
  intro ls H locs hn hl hP hS
  exact lv_iconst hx hb d rfl (k ls H locs hn hl hP hS)
set_option maxHeartbeats 2000000 in
theorem x_bipush {y : MethodName} {cc : ByteArray} {ml : Nat} {ret : Option FieldType} {h mc ms n0 : Nat} {Ret : zRT} {K : zKT} (C : zX y cc ml ret h mc ms n0 Ret K) {pc : Nat} {Lo : List (Option zV)} {st : List zV} {n : Nat} {σ : zS} {w : Nat} {v : Int} (d : decode cc pc = .ok (.bipush v, 2)) (hv : (Int8.ofInt v).toInt32 = zI v) (k : K (pc + 2) Lo (zi v :: st) n σ w) : K pc Lo st n σ w := by
  obtain ⟨p, l, e, R, s, m, args, below, meth, c, Q, g, ⟨hx, hb, hml, hown, hts, hK, hin⟩, hR, hsz, rfl, hrt⟩ := C
  intro ls H locs hn hl hP hS
  exact lv_bipush hx hb d hv (k ls H locs hn hl hP hS)
set_option maxHeartbeats 2000000 in
theorem x_sipush {y : MethodName} {cc : ByteArray} {ml : Nat} {ret : Option FieldType} {h mc ms n0 : Nat} {Ret : zRT} {K : zKT} (C : zX y cc ml ret h mc ms n0 Ret K) {pc : Nat} {Lo : List (Option zV)} {st : List zV} {n : Nat} {σ : zS} {w : Nat} {v : Int} (d : decode cc pc = .ok (.sipush v, 3)) (hv : (Int16.ofInt v).toInt32 = zI v) (k : K (pc + 3) Lo (zi v :: st) n σ w) : K pc Lo st n σ w := by
  obtain ⟨p, l, e, R, s, m, args, below, meth, c, Q, g, ⟨hx, hb, hml, hown, hts, hK, hin⟩, hR, hsz, rfl, hrt⟩ := C
  intro ls H locs hn hl hP hS
  exact lv_sipush hx hb d hv (k ls H locs hn hl hP hS)
set_option maxHeartbeats 2000000 in
theorem x_ldc {y : MethodName} {cc : ByteArray} {ml : Nat} {ret : Option FieldType} {h mc ms n0 : Nat} {Ret : zRT} {K : zKT} (C : zX y cc ml ret h mc ms n0 Ret K) {pc : Nat} {Lo : List (Option zV)} {st : List zV} {n : Nat} {σ : zS} {w : Nat} {idx : Nat} {v : Int} {x : Int32} (d : decode cc pc = .ok (.ldc idx, 2)) (hw : Cond.constant y.cls idx x ∈ zGW) (hv : x = zI v) (k : K (pc + 2) Lo (zi v :: st) n σ w) : K pc Lo st n σ w := by
  obtain ⟨p, l, e, R, s, m, args, below, meth, c, Q, g, ⟨hx, hb, hml, hown, hts, hK, hin⟩, hR, hsz, rfl, hrt⟩ := C
  intro ls H locs hn hl hP hS
  subst hv
  exact lv_ldc hx hb hown (hts _ hw) d (k ls H locs hn hl hP hS)
set_option maxHeartbeats 2000000 in
theorem x_ldcf {y : MethodName} {cc : ByteArray} {ml : Nat} {ret : Option FieldType} {h mc ms n0 : Nat} {Ret : zRT} {K : zKT} (C : zX y cc ml ret h mc ms n0 Ret K) {pc : Nat} {Lo : List (Option zV)} {st : List zV} {n : Nat} {σ : zS} {w : Nat} {idx : Nat} {x : UInt32} (d : decode cc pc = .ok (.ldc idx, 2)) (hw : Cond.constantFloat y.cls idx x ∈ zGW) (k : K (pc + 2) Lo (zf x :: st) n σ w) : K pc Lo st n σ w := by
  obtain ⟨p, l, e, R, s, m, args, below, meth, c, Q, g, ⟨hx, hb, hml, hown, hts, hK, hin⟩, hR, hsz, rfl, hrt⟩ := C
  intro ls H locs hn hl hP hS
  exact lv_ldcf hx hb hown (hts _ hw) d (k ls H locs hn hl hP hS)
set_option maxHeartbeats 2000000 in
theorem x_ldc2 {y : MethodName} {cc : ByteArray} {ml : Nat} {ret : Option FieldType} {h mc ms n0 : Nat} {Ret : zRT} {K : zKT} (C : zX y cc ml ret h mc ms n0 Ret K) {pc : Nat} {Lo : List (Option zV)} {st : List zV} {n : Nat} {σ : zS} {w : Nat} {idx : Nat} {v : Int} {x : Int64} (d : decode cc pc = .ok (.ldc2_w idx, 3)) (hw : Cond.constantLong y.cls idx x ∈ zGW) (hv : x = zJ v) (k : K (pc + 3) Lo (zl v :: st) n σ w) : K pc Lo st n σ w := by
  obtain ⟨p, l, e, R, s, m, args, below, meth, c, Q, g, ⟨hx, hb, hml, hown, hts, hK, hin⟩, hR, hsz, rfl, hrt⟩ := C
  intro ls H locs hn hl hP hS
  subst hv
  exact lv_ldc2 hx hb hown (hts _ hw) d (k ls H locs hn hl hP hS)
set_option maxHeartbeats 2000000 in
theorem x_ldc2d {y : MethodName} {cc : ByteArray} {ml : Nat} {ret : Option FieldType} {h mc ms n0 : Nat} {Ret : zRT} {K : zKT} (C : zX y cc ml ret h mc ms n0 Ret K) {pc : Nat} {Lo : List (Option zV)} {st : List zV} {n : Nat} {σ : zS} {w : Nat} {idx : Nat} {x : UInt64} (d : decode cc pc = .ok (.ldc2_w idx, 3)) (hw : Cond.constantDouble y.cls idx x ∈ zGW) (k : K (pc + 3) Lo (zd x :: st) n σ w) : K pc Lo st n σ w := by
  obtain ⟨p, l, e, R, s, m, args, below, meth, c, Q, g, ⟨hx, hb, hml, hown, hts, hK, hin⟩, hR, hsz, rfl, hrt⟩ := C
  intro ls H locs hn hl hP hS
  exact lv_ldc2d hx hb hown (hts _ hw) d (k ls H locs hn hl hP hS)
set_option maxHeartbeats 2000000 in
theorem x_lconst {y : MethodName} {cc : ByteArray} {ml : Nat} {ret : Option FieldType} {h mc ms n0 : Nat} {Ret : zRT} {K : zKT} (C : zX y cc ml ret h mc ms n0 Ret K) {pc : Nat} {Lo : List (Option zV)} {st : List zV} {n : Nat} {σ : zS} {w : Nat} {v : Fin 2} (d : decode cc pc = .ok (.lconst v, 1)) (k : K (pc + 1) Lo (zl (v.val : Int) :: st) n σ w) : K pc Lo st n σ w := by
  obtain ⟨p, l, e, R, s, m, args, below, meth, c, Q, g, ⟨hx, hb, hml, hown, hts, hK, hin⟩, hR, hsz, rfl, hrt⟩ := C
  intro ls H locs hn hl hP hS
  exact lv_lconst hx hb d (by rw [← Int64.ofInt_eq_ofNat]; rfl) (k ls H locs hn hl hP hS)
set_option maxHeartbeats 2000000 in
theorem x_iload {y : MethodName} {cc : ByteArray} {ml : Nat} {ret : Option FieldType} {h mc ms n0 : Nat} {Ret : zRT} {K : zKT} (C : zX y cc ml ret h mc ms n0 Ret K) {pc : Nat} {Lo : List (Option zV)} {st : List zV} {n : Nat} {σ : zS} {w : Nat} {i : Nat} {x : Int} (d : decode cc pc = .ok (.iload i, 2)) (hl0 : zg Lo i = some (zi x)) (k : K (pc + 2) Lo (zi x :: st) n σ w) : K pc Lo st n σ w := by
  obtain ⟨p, l, e, R, s, m, args, below, meth, c, Q, g, ⟨hx, hb, hml, hown, hts, hK, hin⟩, hR, hsz, rfl, hrt⟩ := C
  intro ls H locs hn hl hP hS
  exact lv_iload hx hb d (hl.at hl0) (k ls H locs hn hl hP hS)
set_option maxHeartbeats 2000000 in
theorem x_iload_n {y : MethodName} {cc : ByteArray} {ml : Nat} {ret : Option FieldType} {h mc ms n0 : Nat} {Ret : zRT} {K : zKT} (C : zX y cc ml ret h mc ms n0 Ret K) {pc : Nat} {Lo : List (Option zV)} {st : List zV} {n : Nat} {σ : zS} {w : Nat} {q : Fin 4} {x : Int} (d : decode cc pc = .ok (.iload_n q, 1)) (hl0 : zg Lo q.val = some (zi x)) (k : K (pc + 1) Lo (zi x :: st) n σ w) : K pc Lo st n σ w := by
  obtain ⟨p, l, e, R, s, m, args, below, meth, c, Q, g, ⟨hx, hb, hml, hown, hts, hK, hin⟩, hR, hsz, rfl, hrt⟩ := C
  intro ls H locs hn hl hP hS
  exact lv_iload_n hx hb d rfl (hl.at hl0) (k ls H locs hn hl hP hS)
set_option maxHeartbeats 2000000 in
theorem x_lload {y : MethodName} {cc : ByteArray} {ml : Nat} {ret : Option FieldType} {h mc ms n0 : Nat} {Ret : zRT} {K : zKT} (C : zX y cc ml ret h mc ms n0 Ret K) {pc : Nat} {Lo : List (Option zV)} {st : List zV} {n : Nat} {σ : zS} {w : Nat} {i : Nat} {x : Int} (d : decode cc pc = .ok (.lload i, 2)) (hl0 : zg Lo i = some (zl x)) (k : K (pc + 2) Lo (zl x :: st) n σ w) : K pc Lo st n σ w := by
  obtain ⟨p, l, e, R, s, m, args, below, meth, c, Q, g, ⟨hx, hb, hml, hown, hts, hK, hin⟩, hR, hsz, rfl, hrt⟩ := C
  intro ls H locs hn hl hP hS
  exact lv_lload hx hb d (hl.at hl0) (k ls H locs hn hl hP hS)
set_option maxHeartbeats 2000000 in
theorem x_lload_n {y : MethodName} {cc : ByteArray} {ml : Nat} {ret : Option FieldType} {h mc ms n0 : Nat} {Ret : zRT} {K : zKT} (C : zX y cc ml ret h mc ms n0 Ret K) {pc : Nat} {Lo : List (Option zV)} {st : List zV} {n : Nat} {σ : zS} {w : Nat} {q : Fin 4} {x : Int} (d : decode cc pc = .ok (.lload_n q, 1)) (hl0 : zg Lo q.val = some (zl x)) (k : K (pc + 1) Lo (zl x :: st) n σ w) : K pc Lo st n σ w := by
  obtain ⟨p, l, e, R, s, m, args, below, meth, c, Q, g, ⟨hx, hb, hml, hown, hts, hK, hin⟩, hR, hsz, rfl, hrt⟩ := C
  intro ls H locs hn hl hP hS
  exact lv_lload_n hx hb d rfl (hl.at hl0) (k ls H locs hn hl hP hS)
set_option maxHeartbeats 2000000 in
theorem x_aload {y : MethodName} {cc : ByteArray} {ml : Nat} {ret : Option FieldType} {h mc ms n0 : Nat} {Ret : zRT} {K : zKT} (C : zX y cc ml ret h mc ms n0 Ret K) {pc : Nat} {Lo : List (Option zV)} {st : List zV} {n : Nat} {σ : zS} {w : Nat} {i : Nat} {x : Int} (d : decode cc pc = .ok (.aload i, 2)) (hl0 : zg Lo i = some (zr x)) (k : K (pc + 2) Lo (zr x :: st) n σ w) : K pc Lo st n σ w := by
  obtain ⟨p, l, e, R, s, m, args, below, meth, c, Q, g, ⟨hx, hb, hml, hown, hts, hK, hin⟩, hR, hsz, rfl, hrt⟩ := C
  intro ls H locs hn hl hP hS
  exact lv_aload hx hb d (hl.at hl0) (k ls H locs hn hl hP hS)
set_option maxHeartbeats 2000000 in
theorem x_aload_n {y : MethodName} {cc : ByteArray} {ml : Nat} {ret : Option FieldType} {h mc ms n0 : Nat} {Ret : zRT} {K : zKT} (C : zX y cc ml ret h mc ms n0 Ret K) {pc : Nat} {Lo : List (Option zV)} {st : List zV} {n : Nat} {σ : zS} {w : Nat} {q : Fin 4} {x : Int} (d : decode cc pc = .ok (.aload_n q, 1)) (hl0 : zg Lo q.val = some (zr x)) (k : K (pc + 1) Lo (zr x :: st) n σ w) : K pc Lo st n σ w := by
  obtain ⟨p, l, e, R, s, m, args, below, meth, c, Q, g, ⟨hx, hb, hml, hown, hts, hK, hin⟩, hR, hsz, rfl, hrt⟩ := C
  intro ls H locs hn hl hP hS
  exact lv_aload_n hx hb d rfl (hl.at hl0) (k ls H locs hn hl hP hS)
set_option maxHeartbeats 2000000 in
theorem x_dload_n {y : MethodName} {cc : ByteArray} {ml : Nat} {ret : Option FieldType} {h mc ms n0 : Nat} {Ret : zRT} {K : zKT} (C : zX y cc ml ret h mc ms n0 Ret K) {pc : Nat} {Lo : List (Option zV)} {st : List zV} {n : Nat} {σ : zS} {w : Nat} {q : Fin 4} {x : UInt64} (d : decode cc pc = .ok (.dload_n q, 1)) (hl0 : zg Lo q.val = some (zd x)) (k : K (pc + 1) Lo (zd x :: st) n σ w) : K pc Lo st n σ w := by
  obtain ⟨p, l, e, R, s, m, args, below, meth, c, Q, g, ⟨hx, hb, hml, hown, hts, hK, hin⟩, hR, hsz, rfl, hrt⟩ := C
  intro ls H locs hn hl hP hS
  exact lv_dload_n hx hb d rfl (hl.at hl0) (k ls H locs hn hl hP hS)
set_option maxHeartbeats 2000000 in
theorem x_fload_n {y : MethodName} {cc : ByteArray} {ml : Nat} {ret : Option FieldType} {h mc ms n0 : Nat} {Ret : zRT} {K : zKT} (C : zX y cc ml ret h mc ms n0 Ret K) {pc : Nat} {Lo : List (Option zV)} {st : List zV} {n : Nat} {σ : zS} {w : Nat} {q : Fin 4} {x : UInt32} (d : decode cc pc = .ok (.fload_n q, 1)) (hl0 : zg Lo q.val = some (zf x)) (k : K (pc + 1) Lo (zf x :: st) n σ w) : K pc Lo st n σ w := by
  obtain ⟨p, l, e, R, s, m, args, below, meth, c, Q, g, ⟨hx, hb, hml, hown, hts, hK, hin⟩, hR, hsz, rfl, hrt⟩ := C
  intro ls H locs hn hl hP hS
  exact lv_fload_n hx hb d rfl (hl.at hl0) (k ls H locs hn hl hP hS)
set_option maxHeartbeats 2000000 in
theorem x_istore {y : MethodName} {cc : ByteArray} {ml : Nat} {ret : Option FieldType} {h mc ms n0 : Nat} {Ret : zRT} {K : zKT} (C : zX y cc ml ret h mc ms n0 Ret K) {pc : Nat} {Lo : List (Option zV)} {st : List zV} {n : Nat} {σ : zS} {w : Nat} {i : Nat} {x : Int} (d : decode cc pc = .ok (.istore i, 2)) (hi : i < ml) (k : K (pc + 2) (zs1 Lo i (zi x)) st n σ w) : K pc Lo (zi x :: st) n σ w := by
  obtain ⟨p, l, e, R, s, m, args, below, meth, c, Q, g, ⟨hx, hb, hml, hown, hts, hK, hin⟩, hR, hsz, rfl, hrt⟩ := C
  intro ls H locs hn hl hP hS
  exact lv_istore hx hb d hl hi rfl (fun ls' hl' => k ls' H locs hn (zL.st1 hl') hP hS)
set_option maxHeartbeats 2000000 in
theorem x_istore_n {y : MethodName} {cc : ByteArray} {ml : Nat} {ret : Option FieldType} {h mc ms n0 : Nat} {Ret : zRT} {K : zKT} (C : zX y cc ml ret h mc ms n0 Ret K) {pc : Nat} {Lo : List (Option zV)} {st : List zV} {n : Nat} {σ : zS} {w : Nat} {q : Fin 4} {x : Int} (d : decode cc pc = .ok (.istore_n q, 1)) (hi : q.val < ml) (k : K (pc + 1) (zs1 Lo q.val (zi x)) st n σ w) : K pc Lo (zi x :: st) n σ w := by
  obtain ⟨p, l, e, R, s, m, args, below, meth, c, Q, g, ⟨hx, hb, hml, hown, hts, hK, hin⟩, hR, hsz, rfl, hrt⟩ := C
  intro ls H locs hn hl hP hS
  exact lv_istore_n hx hb d rfl hl hi rfl (fun ls' hl' => k ls' H locs hn (zL.st1 hl') hP hS)
set_option maxHeartbeats 2000000 in
theorem x_astore {y : MethodName} {cc : ByteArray} {ml : Nat} {ret : Option FieldType} {h mc ms n0 : Nat} {Ret : zRT} {K : zKT} (C : zX y cc ml ret h mc ms n0 Ret K) {pc : Nat} {Lo : List (Option zV)} {st : List zV} {n : Nat} {σ : zS} {w : Nat} {i : Nat} {x : Int} (d : decode cc pc = .ok (.astore i, 2)) (hi : i < ml) (k : K (pc + 2) (zs1 Lo i (zr x)) st n σ w) : K pc Lo (zr x :: st) n σ w := by
  obtain ⟨p, l, e, R, s, m, args, below, meth, c, Q, g, ⟨hx, hb, hml, hown, hts, hK, hin⟩, hR, hsz, rfl, hrt⟩ := C
  intro ls H locs hn hl hP hS
  exact lv_astore hx hb d hl hi rfl (fun ls' hl' => k ls' H locs hn (zL.st1 hl') hP hS)
set_option maxHeartbeats 2000000 in
theorem x_astore_n {y : MethodName} {cc : ByteArray} {ml : Nat} {ret : Option FieldType} {h mc ms n0 : Nat} {Ret : zRT} {K : zKT} (C : zX y cc ml ret h mc ms n0 Ret K) {pc : Nat} {Lo : List (Option zV)} {st : List zV} {n : Nat} {σ : zS} {w : Nat} {q : Fin 4} {x : Int} (d : decode cc pc = .ok (.astore_n q, 1)) (hi : q.val < ml) (k : K (pc + 1) (zs1 Lo q.val (zr x)) st n σ w) : K pc Lo (zr x :: st) n σ w := by
  obtain ⟨p, l, e, R, s, m, args, below, meth, c, Q, g, ⟨hx, hb, hml, hown, hts, hK, hin⟩, hR, hsz, rfl, hrt⟩ := C
  intro ls H locs hn hl hP hS
  exact lv_astore_n hx hb d rfl hl hi rfl (fun ls' hl' => k ls' H locs hn (zL.st1 hl') hP hS)
set_option maxHeartbeats 2000000 in
theorem x_lstore {y : MethodName} {cc : ByteArray} {ml : Nat} {ret : Option FieldType} {h mc ms n0 : Nat} {Ret : zRT} {K : zKT} (C : zX y cc ml ret h mc ms n0 Ret K) {pc : Nat} {Lo : List (Option zV)} {st : List zV} {n : Nat} {σ : zS} {w : Nat} {i : Nat} {x : Int} (d : decode cc pc = .ok (.lstore i, 2)) (hi : i + 1 < ml) (k : K (pc + 2) (zs2 Lo i (zl x)) st n σ w) : K pc Lo (zl x :: st) n σ w := by
  obtain ⟨p, l, e, R, s, m, args, below, meth, c, Q, g, ⟨hx, hb, hml, hown, hts, hK, hin⟩, hR, hsz, rfl, hrt⟩ := C
  intro ls H locs hn hl hP hS
  exact lv_lstore hx hb d hl hi rfl (fun ls' hl' => k ls' H locs hn (zL.st2 hl') hP hS)
set_option maxHeartbeats 2000000 in
theorem x_lstore_n {y : MethodName} {cc : ByteArray} {ml : Nat} {ret : Option FieldType} {h mc ms n0 : Nat} {Ret : zRT} {K : zKT} (C : zX y cc ml ret h mc ms n0 Ret K) {pc : Nat} {Lo : List (Option zV)} {st : List zV} {n : Nat} {σ : zS} {w : Nat} {q : Fin 4} {x : Int} (d : decode cc pc = .ok (.lstore_n q, 1)) (hi : q.val + 1 < ml) (k : K (pc + 1) (zs2 Lo q.val (zl x)) st n σ w) : K pc Lo (zl x :: st) n σ w := by
  obtain ⟨p, l, e, R, s, m, args, below, meth, c, Q, g, ⟨hx, hb, hml, hown, hts, hK, hin⟩, hR, hsz, rfl, hrt⟩ := C
  intro ls H locs hn hl hP hS
  exact lv_lstore_n hx hb d rfl hl hi rfl (fun ls' hl' => k ls' H locs hn (zL.st2 hl') hP hS)
set_option maxHeartbeats 2000000 in
theorem x_iinc {y : MethodName} {cc : ByteArray} {ml : Nat} {ret : Option FieldType} {h mc ms n0 : Nat} {Ret : zRT} {K : zKT} (C : zX y cc ml ret h mc ms n0 Ret K) {pc : Nat} {Lo : List (Option zV)} {st : List zV} {n : Nat} {σ : zS} {w : Nat} {i : Nat} {v x : Int} (d : decode cc pc = .ok (.iinc i v, 3)) (hl0 : zg Lo i = some (zi x)) (hi : i < ml) (k : K (pc + 3) (zs1 Lo i (zi (x + v))) st n σ w) : K pc Lo st n σ w := by
  obtain ⟨p, l, e, R, s, m, args, below, meth, c, Q, g, ⟨hx, hb, hml, hown, hts, hK, hin⟩, hR, hsz, rfl, hrt⟩ := C
  intro ls H locs hn hl hP hS
  have hm := zlst_in g Lo 0 i _ hl0
  rw [Nat.zero_add] at hm
  obtain ⟨q, hq⟩ := List.getElem?_of_mem hm
  exact lv_iinc (v := zI (x + v)) hx hb d hl hq (zI_add x v).symm hi rfl (fun ls' hl' => k ls' H locs hn (zL.st1 hl') hP hS)
set_option maxHeartbeats 2000000 in
theorem x_iadd {y : MethodName} {cc : ByteArray} {ml : Nat} {ret : Option FieldType} {h mc ms n0 : Nat} {Ret : zRT} {K : zKT} (C : zX y cc ml ret h mc ms n0 Ret K) {pc : Nat} {Lo : List (Option zV)} {st : List zV} {n : Nat} {σ : zS} {w : Nat} {a b : Int} (d : decode cc pc = .ok (.iadd, 1)) (k : K (pc + 1) Lo (zi (a + b) :: st) n σ w) : K pc Lo (zi b :: zi a :: st) n σ w := by
  obtain ⟨p, l, e, R, s, m, args, below, meth, c, Q, g, ⟨hx, hb, hml, hown, hts, hK, hin⟩, hR, hsz, rfl, hrt⟩ := C
  intro ls H locs hn hl hP hS
  refine lv_iadd hx hb d ?_
  rw [← zI_add]
  exact k ls H locs hn hl hP hS
set_option maxHeartbeats 2000000 in
theorem x_isub {y : MethodName} {cc : ByteArray} {ml : Nat} {ret : Option FieldType} {h mc ms n0 : Nat} {Ret : zRT} {K : zKT} (C : zX y cc ml ret h mc ms n0 Ret K) {pc : Nat} {Lo : List (Option zV)} {st : List zV} {n : Nat} {σ : zS} {w : Nat} {a b : Int} (d : decode cc pc = .ok (.isub, 1)) (k : K (pc + 1) Lo (zi (a - b) :: st) n σ w) : K pc Lo (zi b :: zi a :: st) n σ w := by
  obtain ⟨p, l, e, R, s, m, args, below, meth, c, Q, g, ⟨hx, hb, hml, hown, hts, hK, hin⟩, hR, hsz, rfl, hrt⟩ := C
  intro ls H locs hn hl hP hS
  refine lv_isub hx hb d ?_
  rw [← zI_sub]
  exact k ls H locs hn hl hP hS
set_option maxHeartbeats 2000000 in
theorem x_imul {y : MethodName} {cc : ByteArray} {ml : Nat} {ret : Option FieldType} {h mc ms n0 : Nat} {Ret : zRT} {K : zKT} (C : zX y cc ml ret h mc ms n0 Ret K) {pc : Nat} {Lo : List (Option zV)} {st : List zV} {n : Nat} {σ : zS} {w : Nat} {a b : Int} (d : decode cc pc = .ok (.imul, 1)) (k : K (pc + 1) Lo (zi (a * b) :: st) n σ w) : K pc Lo (zi b :: zi a :: st) n σ w := by
  obtain ⟨p, l, e, R, s, m, args, below, meth, c, Q, g, ⟨hx, hb, hml, hown, hts, hK, hin⟩, hR, hsz, rfl, hrt⟩ := C
  intro ls H locs hn hl hP hS
  refine lv_imul hx hb d ?_
  rw [← zI_mul]
  exact k ls H locs hn hl hP hS
set_option maxHeartbeats 2000000 in
theorem x_ladd {y : MethodName} {cc : ByteArray} {ml : Nat} {ret : Option FieldType} {h mc ms n0 : Nat} {Ret : zRT} {K : zKT} (C : zX y cc ml ret h mc ms n0 Ret K) {pc : Nat} {Lo : List (Option zV)} {st : List zV} {n : Nat} {σ : zS} {w : Nat} {a b : Int} (d : decode cc pc = .ok (.ladd, 1)) (k : K (pc + 1) Lo (zl (a + b) :: st) n σ w) : K pc Lo (zl b :: zl a :: st) n σ w := by
  obtain ⟨p, l, e, R, s, m, args, below, meth, c, Q, g, ⟨hx, hb, hml, hown, hts, hK, hin⟩, hR, hsz, rfl, hrt⟩ := C
  intro ls H locs hn hl hP hS
  refine lv_ladd hx hb d ?_
  rw [← zJ_add]
  exact k ls H locs hn hl hP hS
set_option maxHeartbeats 2000000 in
theorem x_lsub {y : MethodName} {cc : ByteArray} {ml : Nat} {ret : Option FieldType} {h mc ms n0 : Nat} {Ret : zRT} {K : zKT} (C : zX y cc ml ret h mc ms n0 Ret K) {pc : Nat} {Lo : List (Option zV)} {st : List zV} {n : Nat} {σ : zS} {w : Nat} {a b : Int} (d : decode cc pc = .ok (.lsub, 1)) (k : K (pc + 1) Lo (zl (a - b) :: st) n σ w) : K pc Lo (zl b :: zl a :: st) n σ w := by
  obtain ⟨p, l, e, R, s, m, args, below, meth, c, Q, g, ⟨hx, hb, hml, hown, hts, hK, hin⟩, hR, hsz, rfl, hrt⟩ := C
  intro ls H locs hn hl hP hS
  refine lv_lsub hx hb d ?_
  rw [← zJ_sub]
  exact k ls H locs hn hl hP hS
set_option maxHeartbeats 2000000 in
theorem x_lmul {y : MethodName} {cc : ByteArray} {ml : Nat} {ret : Option FieldType} {h mc ms n0 : Nat} {Ret : zRT} {K : zKT} (C : zX y cc ml ret h mc ms n0 Ret K) {pc : Nat} {Lo : List (Option zV)} {st : List zV} {n : Nat} {σ : zS} {w : Nat} {a b : Int} (d : decode cc pc = .ok (.lmul, 1)) (k : K (pc + 1) Lo (zl (a * b) :: st) n σ w) : K pc Lo (zl b :: zl a :: st) n σ w := by
  obtain ⟨p, l, e, R, s, m, args, below, meth, c, Q, g, ⟨hx, hb, hml, hown, hts, hK, hin⟩, hR, hsz, rfl, hrt⟩ := C
  intro ls H locs hn hl hP hS
  refine lv_lmul hx hb d ?_
  rw [← zJ_mul]
  exact k ls H locs hn hl hP hS
set_option maxHeartbeats 2000000 in
theorem x_ineg {y : MethodName} {cc : ByteArray} {ml : Nat} {ret : Option FieldType} {h mc ms n0 : Nat} {Ret : zRT} {K : zKT} (C : zX y cc ml ret h mc ms n0 Ret K) {pc : Nat} {Lo : List (Option zV)} {st : List zV} {n : Nat} {σ : zS} {w : Nat} {a : Int} (d : decode cc pc = .ok (.ineg, 1)) (k : K (pc + 1) Lo (zi (-a) :: st) n σ w) : K pc Lo (zi a :: st) n σ w := by
  obtain ⟨p, l, e, R, s, m, args, below, meth, c, Q, g, ⟨hx, hb, hml, hown, hts, hK, hin⟩, hR, hsz, rfl, hrt⟩ := C
  intro ls H locs hn hl hP hS
  refine lv_ineg hx hb d ?_
  rw [← zI_neg]
  exact k ls H locs hn hl hP hS
set_option maxHeartbeats 2000000 in
theorem x_lneg {y : MethodName} {cc : ByteArray} {ml : Nat} {ret : Option FieldType} {h mc ms n0 : Nat} {Ret : zRT} {K : zKT} (C : zX y cc ml ret h mc ms n0 Ret K) {pc : Nat} {Lo : List (Option zV)} {st : List zV} {n : Nat} {σ : zS} {w : Nat} {a : Int} (d : decode cc pc = .ok (.lneg, 1)) (k : K (pc + 1) Lo (zl (-a) :: st) n σ w) : K pc Lo (zl a :: st) n σ w := by
  obtain ⟨p, l, e, R, s, m, args, below, meth, c, Q, g, ⟨hx, hb, hml, hown, hts, hK, hin⟩, hR, hsz, rfl, hrt⟩ := C
  intro ls H locs hn hl hP hS
  refine lv_lneg hx hb d ?_
  rw [← zJ_neg]
  exact k ls H locs hn hl hP hS
set_option maxHeartbeats 2000000 in
theorem x_idiv {y : MethodName} {cc : ByteArray} {ml : Nat} {ret : Option FieldType} {h mc ms n0 : Nat} {Ret : zRT} {K : zKT} (C : zX y cc ml ret h mc ms n0 Ret K) {pc : Nat} {Lo : List (Option zV)} {st : List zV} {n : Nat} {σ : zS} {w : Nat} {a b : Int} (d : decode cc pc = .ok (.idiv, 1)) (hr : (0 ≤ a ∧ a < 2147483648) ∧ 0 < b ∧ b < 2147483648) (k : K (pc + 1) Lo (zi (a / b) :: st) n σ w) : K pc Lo (zi b :: zi a :: st) n σ w := by
  obtain ⟨p, l, e, R, s, m, args, below, meth, c, Q, g, ⟨hx, hb, hml, hown, hts, hK, hin⟩, hR, hsz, rfl, hrt⟩ := C
  intro ls H locs hn hl hP hS
  refine lv_idiv hx hb d (zI_ne0 (by omega) (by omega)) ?_
  rw [zI_div hr.1 hr.2]
  exact k ls H locs hn hl hP hS
set_option maxHeartbeats 2000000 in
theorem x_irem {y : MethodName} {cc : ByteArray} {ml : Nat} {ret : Option FieldType} {h mc ms n0 : Nat} {Ret : zRT} {K : zKT} (C : zX y cc ml ret h mc ms n0 Ret K) {pc : Nat} {Lo : List (Option zV)} {st : List zV} {n : Nat} {σ : zS} {w : Nat} {a b : Int} (d : decode cc pc = .ok (.irem, 1)) (hr : (0 ≤ a ∧ a < 2147483648) ∧ 0 < b ∧ b < 2147483648) (k : K (pc + 1) Lo (zi (a % b) :: st) n σ w) : K pc Lo (zi b :: zi a :: st) n σ w := by
  obtain ⟨p, l, e, R, s, m, args, below, meth, c, Q, g, ⟨hx, hb, hml, hown, hts, hK, hin⟩, hR, hsz, rfl, hrt⟩ := C
  intro ls H locs hn hl hP hS
  refine lv_irem hx hb d (zI_ne0 (by omega) (by omega)) ?_
  rw [zI_rem hr.1 hr.2]
  exact k ls H locs hn hl hP hS
set_option maxHeartbeats 2000000 in
theorem x_idivs {y : MethodName} {cc : ByteArray} {ml : Nat} {ret : Option FieldType} {h mc ms n0 : Nat} {Ret : zRT} {K : zKT} (C : zX y cc ml ret h mc ms n0 Ret K) {pc : Nat} {Lo : List (Option zV)} {st : List zV} {n : Nat} {σ : zS} {w : Nat} {a b : Int} (d : decode cc pc = .ok (.idiv, 1)) (hr : (-2147483648 < a ∧ a < 2147483648) ∧ b ≠ 0 ∧ -2147483648 ≤ b ∧ b < 2147483648) (k : K (pc + 1) Lo (zi (a.tdiv b) :: st) n σ w) : K pc Lo (zi b :: zi a :: st) n σ w := by
  obtain ⟨p, l, e, R, s, m, args, below, meth, c, Q, g, ⟨hx, hb, hml, hown, hts, hK, hin⟩, hR, hsz, rfl, hrt⟩ := C
  intro ls H locs hn hl hP hS
  refine lv_idiv hx hb d (zI_ne0 (by omega) hr.2.1) ?_
  rw [zI_divs hr.1 hr.2.2]
  exact k ls H locs hn hl hP hS
set_option maxHeartbeats 2000000 in
theorem x_irems {y : MethodName} {cc : ByteArray} {ml : Nat} {ret : Option FieldType} {h mc ms n0 : Nat} {Ret : zRT} {K : zKT} (C : zX y cc ml ret h mc ms n0 Ret K) {pc : Nat} {Lo : List (Option zV)} {st : List zV} {n : Nat} {σ : zS} {w : Nat} {a b : Int} (d : decode cc pc = .ok (.irem, 1)) (hr : (-2147483648 < a ∧ a < 2147483648) ∧ b ≠ 0 ∧ -2147483648 ≤ b ∧ b < 2147483648) (k : K (pc + 1) Lo (zi (a.tmod b) :: st) n σ w) : K pc Lo (zi b :: zi a :: st) n σ w := by
  obtain ⟨p, l, e, R, s, m, args, below, meth, c, Q, g, ⟨hx, hb, hml, hown, hts, hK, hin⟩, hR, hsz, rfl, hrt⟩ := C
  intro ls H locs hn hl hP hS
  refine lv_irem hx hb d (zI_ne0 (by omega) hr.2.1) ?_
  rw [zI_rems hr.1 hr.2.2]
  exact k ls H locs hn hl hP hS
set_option maxHeartbeats 2000000 in
theorem x_ishl {y : MethodName} {cc : ByteArray} {ml : Nat} {ret : Option FieldType} {h mc ms n0 : Nat} {Ret : zRT} {K : zKT} (C : zX y cc ml ret h mc ms n0 Ret K) {pc : Nat} {Lo : List (Option zV)} {st : List zV} {n : Nat} {σ : zS} {w : Nat} {a b : Int} (d : decode cc pc = .ok (.ishl, 1)) (hr : 0 ≤ b ∧ b < 32) (k : K (pc + 1) Lo (zi (a * 2 ^ b.toNat) :: st) n σ w) : K pc Lo (zi b :: zi a :: st) n σ w := by
  obtain ⟨p, l, e, R, s, m, args, below, meth, c, Q, g, ⟨hx, hb, hml, hown, hts, hK, hin⟩, hR, hsz, rfl, hrt⟩ := C
  intro ls H locs hn hl hP hS
  refine lv_ishl hx hb d ?_
  rw [zI_shl a hr]
  exact k ls H locs hn hl hP hS
set_option maxHeartbeats 2000000 in
theorem x_ishr {y : MethodName} {cc : ByteArray} {ml : Nat} {ret : Option FieldType} {h mc ms n0 : Nat} {Ret : zRT} {K : zKT} (C : zX y cc ml ret h mc ms n0 Ret K) {pc : Nat} {Lo : List (Option zV)} {st : List zV} {n : Nat} {σ : zS} {w : Nat} {a b : Int} (d : decode cc pc = .ok (.ishr, 1)) (hr : (-2147483648 ≤ a ∧ a < 2147483648) ∧ 0 ≤ b ∧ b < 32) (k : K (pc + 1) Lo (zi (a / 2 ^ b.toNat) :: st) n σ w) : K pc Lo (zi b :: zi a :: st) n σ w := by
  obtain ⟨p, l, e, R, s, m, args, below, meth, c, Q, g, ⟨hx, hb, hml, hown, hts, hK, hin⟩, hR, hsz, rfl, hrt⟩ := C
  intro ls H locs hn hl hP hS
  refine lv_ishr hx hb d ?_
  rw [zI_shr hr.1 hr.2]
  exact k ls H locs hn hl hP hS
set_option maxHeartbeats 2000000 in
theorem x_iand {y : MethodName} {cc : ByteArray} {ml : Nat} {ret : Option FieldType} {h mc ms n0 : Nat} {Ret : zRT} {K : zKT} (C : zX y cc ml ret h mc ms n0 Ret K) {pc : Nat} {Lo : List (Option zV)} {st : List zV} {n : Nat} {σ : zS} {w : Nat} {a b : Int} (d : decode cc pc = .ok (.iand, 1)) (k : K (pc + 1) Lo (zi (zand a b) :: st) n σ w) : K pc Lo (zi b :: zi a :: st) n σ w := by
  obtain ⟨p, l, e, R, s, m, args, below, meth, c, Q, g, ⟨hx, hb, hml, hown, hts, hK, hin⟩, hR, hsz, rfl, hrt⟩ := C
  intro ls H locs hn hl hP hS
  refine lv_iand hx hb d ?_
  rw [← zI_and]
  exact k ls H locs hn hl hP hS
set_option maxHeartbeats 2000000 in
theorem x_ior {y : MethodName} {cc : ByteArray} {ml : Nat} {ret : Option FieldType} {h mc ms n0 : Nat} {Ret : zRT} {K : zKT} (C : zX y cc ml ret h mc ms n0 Ret K) {pc : Nat} {Lo : List (Option zV)} {st : List zV} {n : Nat} {σ : zS} {w : Nat} {a b : Int} (d : decode cc pc = .ok (.ior, 1)) (k : K (pc + 1) Lo (zi (zor a b) :: st) n σ w) : K pc Lo (zi b :: zi a :: st) n σ w := by
  obtain ⟨p, l, e, R, s, m, args, below, meth, c, Q, g, ⟨hx, hb, hml, hown, hts, hK, hin⟩, hR, hsz, rfl, hrt⟩ := C
  intro ls H locs hn hl hP hS
  refine lv_ior hx hb d ?_
  rw [← zI_or]
  exact k ls H locs hn hl hP hS
set_option maxHeartbeats 2000000 in
theorem x_land {y : MethodName} {cc : ByteArray} {ml : Nat} {ret : Option FieldType} {h mc ms n0 : Nat} {Ret : zRT} {K : zKT} (C : zX y cc ml ret h mc ms n0 Ret K) {pc : Nat} {Lo : List (Option zV)} {st : List zV} {n : Nat} {σ : zS} {w : Nat} {a b : Int} (d : decode cc pc = .ok (.land, 1)) (k : K (pc + 1) Lo (zl (zandl a b) :: st) n σ w) : K pc Lo (zl b :: zl a :: st) n σ w := by
  obtain ⟨p, l, e, R, s, m, args, below, meth, c, Q, g, ⟨hx, hb, hml, hown, hts, hK, hin⟩, hR, hsz, rfl, hrt⟩ := C
  intro ls H locs hn hl hP hS
  refine lv_land hx hb d ?_
  rw [← zJ_and]
  exact k ls H locs hn hl hP hS
set_option maxHeartbeats 2000000 in
theorem x_lor {y : MethodName} {cc : ByteArray} {ml : Nat} {ret : Option FieldType} {h mc ms n0 : Nat} {Ret : zRT} {K : zKT} (C : zX y cc ml ret h mc ms n0 Ret K) {pc : Nat} {Lo : List (Option zV)} {st : List zV} {n : Nat} {σ : zS} {w : Nat} {a b : Int} (d : decode cc pc = .ok (.lor, 1)) (k : K (pc + 1) Lo (zl (zorl a b) :: st) n σ w) : K pc Lo (zl b :: zl a :: st) n σ w := by
  obtain ⟨p, l, e, R, s, m, args, below, meth, c, Q, g, ⟨hx, hb, hml, hown, hts, hK, hin⟩, hR, hsz, rfl, hrt⟩ := C
  intro ls H locs hn hl hP hS
  refine lv_lor hx hb d ?_
  rw [← zJ_or]
  exact k ls H locs hn hl hP hS
set_option maxHeartbeats 2000000 in
theorem x_lshl {y : MethodName} {cc : ByteArray} {ml : Nat} {ret : Option FieldType} {h mc ms n0 : Nat} {Ret : zRT} {K : zKT} (C : zX y cc ml ret h mc ms n0 Ret K) {pc : Nat} {Lo : List (Option zV)} {st : List zV} {n : Nat} {σ : zS} {w : Nat} {a b : Int} (d : decode cc pc = .ok (.lshl, 1)) (hr : 0 ≤ b ∧ b < 64) (k : K (pc + 1) Lo (zl (a * 2 ^ b.toNat) :: st) n σ w) : K pc Lo (zi b :: zl a :: st) n σ w := by
  obtain ⟨p, l, e, R, s, m, args, below, meth, c, Q, g, ⟨hx, hb, hml, hown, hts, hK, hin⟩, hR, hsz, rfl, hrt⟩ := C
  intro ls H locs hn hl hP hS
  exact lv_lshl hx hb d (zJ_shl a hr) (k ls H locs hn hl hP hS)
set_option maxHeartbeats 2000000 in
theorem x_lshr {y : MethodName} {cc : ByteArray} {ml : Nat} {ret : Option FieldType} {h mc ms n0 : Nat} {Ret : zRT} {K : zKT} (C : zX y cc ml ret h mc ms n0 Ret K) {pc : Nat} {Lo : List (Option zV)} {st : List zV} {n : Nat} {σ : zS} {w : Nat} {a b : Int} (d : decode cc pc = .ok (.lshr, 1)) (hr : (-9223372036854775808 ≤ a ∧ a < 9223372036854775808) ∧ 0 ≤ b ∧ b < 64) (k : K (pc + 1) Lo (zl (a / 2 ^ b.toNat) :: st) n σ w) : K pc Lo (zi b :: zl a :: st) n σ w := by
  obtain ⟨p, l, e, R, s, m, args, below, meth, c, Q, g, ⟨hx, hb, hml, hown, hts, hK, hin⟩, hR, hsz, rfl, hrt⟩ := C
  intro ls H locs hn hl hP hS
  exact lv_lshr hx hb d (zJ_shr hr.1 hr.2) (k ls H locs hn hl hP hS)
set_option maxHeartbeats 2000000 in
theorem x_lushr {y : MethodName} {cc : ByteArray} {ml : Nat} {ret : Option FieldType} {h mc ms n0 : Nat} {Ret : zRT} {K : zKT} (C : zX y cc ml ret h mc ms n0 Ret K) {pc : Nat} {Lo : List (Option zV)} {st : List zV} {n : Nat} {σ : zS} {w : Nat} {a b : Int} (d : decode cc pc = .ok (.lushr, 1)) (hr : 0 ≤ b ∧ b < 64) (k : K (pc + 1) Lo (zl ((a % 18446744073709551616) / 2 ^ b.toNat) :: st) n σ w) : K pc Lo (zi b :: zl a :: st) n σ w := by
  obtain ⟨p, l, e, R, s, m, args, below, meth, c, Q, g, ⟨hx, hb, hml, hown, hts, hK, hin⟩, hR, hsz, rfl, hrt⟩ := C
  intro ls H locs hn hl hP hS
  exact lv_lushr hx hb d (zJ_ushr a hr) (k ls H locs hn hl hP hS)
set_option maxHeartbeats 2000000 in
theorem x_i2l {y : MethodName} {cc : ByteArray} {ml : Nat} {ret : Option FieldType} {h mc ms n0 : Nat} {Ret : zRT} {K : zKT} (C : zX y cc ml ret h mc ms n0 Ret K) {pc : Nat} {Lo : List (Option zV)} {st : List zV} {n : Nat} {σ : zS} {w : Nat} {a : Int} (d : decode cc pc = .ok (.i2l, 1)) (hr : -2147483648 ≤ a ∧ a < 2147483648) (k : K (pc + 1) Lo (zl a :: st) n σ w) : K pc Lo (zi a :: st) n σ w := by
  obtain ⟨p, l, e, R, s, m, args, below, meth, c, Q, g, ⟨hx, hb, hml, hown, hts, hK, hin⟩, hR, hsz, rfl, hrt⟩ := C
  intro ls H locs hn hl hP hS
  exact lv_i2l hx hb d (zI_l hr) (k ls H locs hn hl hP hS)
set_option maxHeartbeats 2000000 in
theorem x_l2i {y : MethodName} {cc : ByteArray} {ml : Nat} {ret : Option FieldType} {h mc ms n0 : Nat} {Ret : zRT} {K : zKT} (C : zX y cc ml ret h mc ms n0 Ret K) {pc : Nat} {Lo : List (Option zV)} {st : List zV} {n : Nat} {σ : zS} {w : Nat} {a : Int} (d : decode cc pc = .ok (.l2i, 1)) (k : K (pc + 1) Lo (zi a :: st) n σ w) : K pc Lo (zl a :: st) n σ w := by
  obtain ⟨p, l, e, R, s, m, args, below, meth, c, Q, g, ⟨hx, hb, hml, hown, hts, hK, hin⟩, hR, hsz, rfl, hrt⟩ := C
  intro ls H locs hn hl hP hS
  exact lv_l2i hx hb d Int64.toInt32_ofInt (k ls H locs hn hl hP hS)
set_option maxHeartbeats 2000000 in
theorem x_i2c {y : MethodName} {cc : ByteArray} {ml : Nat} {ret : Option FieldType} {h mc ms n0 : Nat} {Ret : zRT} {K : zKT} (C : zX y cc ml ret h mc ms n0 Ret K) {pc : Nat} {Lo : List (Option zV)} {st : List zV} {n : Nat} {σ : zS} {w : Nat} {a : Int} (d : decode cc pc = .ok (.i2c, 1)) (hr : 0 ≤ a ∧ a < 65536) (k : K (pc + 1) Lo (zi a :: st) n σ w) : K pc Lo (zi a :: st) n σ w := by
  obtain ⟨p, l, e, R, s, m, args, below, meth, c, Q, g, ⟨hx, hb, hml, hown, hts, hK, hin⟩, hR, hsz, rfl, hrt⟩ := C
  intro ls H locs hn hl hP hS
  exact lv_i2c hx hb d (zI_c hr) (k ls H locs hn hl hP hS)
set_option maxHeartbeats 2000000 in
theorem x_i2d {y : MethodName} {cc : ByteArray} {ml : Nat} {ret : Option FieldType} {h mc ms n0 : Nat} {Ret : zRT} {K : zKT} (C : zX y cc ml ret h mc ms n0 Ret K) {pc : Nat} {Lo : List (Option zV)} {st : List zV} {n : Nat} {σ : zS} {w : Nat} {a : Int} (d : decode cc pc = .ok (.i2d, 1)) (k : K (pc + 1) Lo (zd (FP.i2d (zI a)) :: st) n σ w) : K pc Lo (zi a :: st) n σ w := by
  obtain ⟨p, l, e, R, s, m, args, below, meth, c, Q, g, ⟨hx, hb, hml, hown, hts, hK, hin⟩, hR, hsz, rfl, hrt⟩ := C
  intro ls H locs hn hl hP hS
  exact lv_i2d hx hb d (k ls H locs hn hl hP hS)
set_option maxHeartbeats 2000000 in
theorem x_i2f {y : MethodName} {cc : ByteArray} {ml : Nat} {ret : Option FieldType} {h mc ms n0 : Nat} {Ret : zRT} {K : zKT} (C : zX y cc ml ret h mc ms n0 Ret K) {pc : Nat} {Lo : List (Option zV)} {st : List zV} {n : Nat} {σ : zS} {w : Nat} {a : Int} (d : decode cc pc = .ok (.i2f, 1)) (k : K (pc + 1) Lo (zf (FP.i2f (zI a)) :: st) n σ w) : K pc Lo (zi a :: st) n σ w := by
  obtain ⟨p, l, e, R, s, m, args, below, meth, c, Q, g, ⟨hx, hb, hml, hown, hts, hK, hin⟩, hR, hsz, rfl, hrt⟩ := C
  intro ls H locs hn hl hP hS
  exact lv_i2f hx hb d (k ls H locs hn hl hP hS)
set_option maxHeartbeats 2000000 in
theorem x_ddiv {y : MethodName} {cc : ByteArray} {ml : Nat} {ret : Option FieldType} {h mc ms n0 : Nat} {Ret : zRT} {K : zKT} (C : zX y cc ml ret h mc ms n0 Ret K) {pc : Nat} {Lo : List (Option zV)} {st : List zV} {n : Nat} {σ : zS} {w : Nat} {a b : UInt64} (d : decode cc pc = .ok (.ddiv, 1)) (hr : vf_n64 (FP.ddiv a b)) (k : K (pc + 1) Lo (zd (FP.ddiv a b) :: st) n σ w) : K pc Lo (zd b :: zd a :: st) n σ w := by
  obtain ⟨p, l, e, R, s, m, args, below, meth, c, Q, g, ⟨hx, hb, hml, hown, hts, hK, hin⟩, hR, hsz, rfl, hrt⟩ := C
  intro ls H locs hn hl hP hS
  exact lv_ddiv hx hb d hr (k ls H locs hn hl hP hS)
set_option maxHeartbeats 2000000 in
theorem x_fdiv {y : MethodName} {cc : ByteArray} {ml : Nat} {ret : Option FieldType} {h mc ms n0 : Nat} {Ret : zRT} {K : zKT} (C : zX y cc ml ret h mc ms n0 Ret K) {pc : Nat} {Lo : List (Option zV)} {st : List zV} {n : Nat} {σ : zS} {w : Nat} {a b : UInt32} (d : decode cc pc = .ok (.fdiv, 1)) (hr : vf_n32 (FP.fdiv a b)) (k : K (pc + 1) Lo (zf (FP.fdiv a b) :: st) n σ w) : K pc Lo (zf b :: zf a :: st) n σ w := by
  obtain ⟨p, l, e, R, s, m, args, below, meth, c, Q, g, ⟨hx, hb, hml, hown, hts, hK, hin⟩, hR, hsz, rfl, hrt⟩ := C
  intro ls H locs hn hl hP hS
  exact lv_fdiv hx hb d hr (k ls H locs hn hl hP hS)
set_option maxHeartbeats 2000000 in
theorem x_lcmp {y : MethodName} {cc : ByteArray} {ml : Nat} {ret : Option FieldType} {h mc ms n0 : Nat} {Ret : zRT} {K : zKT} (C : zX y cc ml ret h mc ms n0 Ret K) {pc : Nat} {Lo : List (Option zV)} {st : List zV} {n : Nat} {σ : zS} {w : Nat} {a b : Int} (d : decode cc pc = .ok (.lcmp, 1)) (hr : (-9223372036854775808 ≤ a ∧ a < 9223372036854775808) ∧ (-9223372036854775808 ≤ b ∧ b < 9223372036854775808)) (k : ∀ r : Int, ((a < b ∧ r = -1) ∨ (a = b ∧ r = 0) ∨ (b < a ∧ r = 1)) → K (pc + 1) Lo (zi r :: st) n σ w) : K pc Lo (zl b :: zl a :: st) n σ w := by
  obtain ⟨p, l, e, R, s, m, args, below, meth, c, Q, g, ⟨hx, hb, hml, hown, hts, hK, hin⟩, hR, hsz, rfl, hrt⟩ := C
  intro ls H locs hn hl hP hS
  refine W.lcmp hx hb d ?_
  obtain ⟨r, hr1, hr2⟩ := zJ_cmp hr
  rw [hr1]
  exact k r hr2 ls H locs hn hl hP hS
set_option maxHeartbeats 2000000 in
theorem x_dup {y : MethodName} {cc : ByteArray} {ml : Nat} {ret : Option FieldType} {h mc ms n0 : Nat} {Ret : zRT} {K : zKT} (C : zX y cc ml ret h mc ms n0 Ret K) {pc : Nat} {Lo : List (Option zV)} {st : List zV} {n : Nat} {σ : zS} {w : Nat} {v : zV} (d : decode cc pc = .ok (.dup, 1)) (hw : zwide v = false) (k : K (pc + 1) Lo (v :: v :: st) n σ w) : K pc Lo (v :: st) n σ w := by
  obtain ⟨p, l, e, R, s, m, args, below, meth, c, Q, g, ⟨hx, hb, hml, hown, hts, hK, hin⟩, hR, hsz, rfl, hrt⟩ := C
  intro ls H locs hn hl hP hS
  exact lv_dup hx hb d ((lv_cat _).resolve_right (fun q => by rw [(zcat_wide g v).mp q] at hw; cases hw)) (k ls H locs hn hl hP hS)
set_option maxHeartbeats 2000000 in
theorem x_dup2 {y : MethodName} {cc : ByteArray} {ml : Nat} {ret : Option FieldType} {h mc ms n0 : Nat} {Ret : zRT} {K : zKT} (C : zX y cc ml ret h mc ms n0 Ret K) {pc : Nat} {Lo : List (Option zV)} {st : List zV} {n : Nat} {σ : zS} {w : Nat} {v u : zV} (d : decode cc pc = .ok (.dup2, 1)) (hw : zwide v = false ∧ zwide u = false) (k : K (pc + 1) Lo (v :: u :: v :: u :: st) n σ w) : K pc Lo (v :: u :: st) n σ w := by
  obtain ⟨p, l, e, R, s, m, args, below, meth, c, Q, g, ⟨hx, hb, hml, hown, hts, hK, hin⟩, hR, hsz, rfl, hrt⟩ := C
  intro ls H locs hn hl hP hS
  exact lv_dup2_11 hx hb d ((lv_cat _).resolve_right (fun q => by have := (zcat_wide g _).mp q; simp [hw.1, hw.2] at this)) ((lv_cat _).resolve_right (fun q => by have := (zcat_wide g _).mp q; simp [hw.1, hw.2] at this)) (k ls H locs hn hl hP hS)
set_option maxHeartbeats 2000000 in
theorem x_goto {y : MethodName} {cc : ByteArray} {ml : Nat} {ret : Option FieldType} {h mc ms n0 : Nat} {Ret : zRT} {K : zKT} (C : zX y cc ml ret h mc ms n0 Ret K) {pc : Nat} {Lo : List (Option zV)} {st : List zV} {n : Nat} {σ : zS} {w : Nat} {off : Int} {tgt : Nat} (d : decode cc pc = .ok (.goto off, 3)) (ht : (pc : Int) + off = (tgt : Int)) (k : K tgt Lo st n σ w) : K pc Lo st n σ w := by
  obtain ⟨p, l, e, R, s, m, args, below, meth, c, Q, g, ⟨hx, hb, hml, hown, hts, hK, hin⟩, hR, hsz, rfl, hrt⟩ := C
  intro ls H locs hn hl hP hS
  exact lv_goto hx hb d ht (k ls H locs hn hl hP hS)
set_option maxHeartbeats 2000000 in
theorem x_icmp_eq {y : MethodName} {cc : ByteArray} {ml : Nat} {ret : Option FieldType} {h mc ms n0 : Nat} {Ret : zRT} {K : zKT} (C : zX y cc ml ret h mc ms n0 Ret K) {pc : Nat} {Lo : List (Option zV)} {st : List zV} {n : Nat} {σ : zS} {w : Nat} {a b : Int} {off : Int} {tgt : Nat} (d : decode cc pc = .ok (.if_icmp .eq off, 3)) (ht : (pc : Int) + off = (tgt : Int)) (hr : (-2147483648 ≤ a ∧ a < 2147483648) ∧ (-2147483648 ≤ b ∧ b < 2147483648)) (kt : a = b → K tgt Lo st n σ w) (kf : ¬ a = b → K (pc + 3) Lo st n σ w) : K pc Lo (zi b :: zi a :: st) n σ w := by
  obtain ⟨p, l, e, R, s, m, args, below, meth, c, Q, g, ⟨hx, hb, hml, hown, hts, hK, hin⟩, hR, hsz, rfl, hrt⟩ := C
  intro ls H locs hn hl hP hS
  have hr2 := And.intro hr.2 hr.1
  exact lv_icmp_eq hx hb d ht (fun q => kt ((zI_eq hr).mp q) ls H locs hn hl hP hS) (fun q => kf (fun z => q ((zI_eq hr).mpr z)) ls H locs hn hl hP hS)
set_option maxHeartbeats 2000000 in
theorem x_if_eq {y : MethodName} {cc : ByteArray} {ml : Nat} {ret : Option FieldType} {h mc ms n0 : Nat} {Ret : zRT} {K : zKT} (C : zX y cc ml ret h mc ms n0 Ret K) {pc : Nat} {Lo : List (Option zV)} {st : List zV} {n : Nat} {σ : zS} {w : Nat} {a : Int} {off : Int} {tgt : Nat} (d : decode cc pc = .ok (.ifCond .eq off, 3)) (ht : (pc : Int) + off = (tgt : Int)) (hr0 : -2147483648 ≤ a ∧ a < 2147483648) (kt : a = 0 → K tgt Lo st n σ w) (kf : ¬ a = 0 → K (pc + 3) Lo st n σ w) : K pc Lo (zi a :: st) n σ w := by
  obtain ⟨p, l, e, R, s, m, args, below, meth, c, Q, g, ⟨hx, hb, hml, hown, hts, hK, hin⟩, hR, hsz, rfl, hrt⟩ := C
  intro ls H locs hn hl hP hS
  have hr : (-2147483648 ≤ a ∧ a < 2147483648) ∧ (-2147483648 ≤ (0 : Int) ∧ (0 : Int) < 2147483648) := And.intro hr0 (by omega)
  have hr2 := And.intro hr.2 hr.1
  exact lv_if_eq hx hb d ht (fun q => kt ((zI_eq hr).mp q) ls H locs hn hl hP hS) (fun q => kf (fun z => q ((zI_eq hr).mpr z)) ls H locs hn hl hP hS)
set_option maxHeartbeats 2000000 in
theorem x_icmp_ne {y : MethodName} {cc : ByteArray} {ml : Nat} {ret : Option FieldType} {h mc ms n0 : Nat} {Ret : zRT} {K : zKT} (C : zX y cc ml ret h mc ms n0 Ret K) {pc : Nat} {Lo : List (Option zV)} {st : List zV} {n : Nat} {σ : zS} {w : Nat} {a b : Int} {off : Int} {tgt : Nat} (d : decode cc pc = .ok (.if_icmp .ne off, 3)) (ht : (pc : Int) + off = (tgt : Int)) (hr : (-2147483648 ≤ a ∧ a < 2147483648) ∧ (-2147483648 ≤ b ∧ b < 2147483648)) (kt : ¬ a = b → K tgt Lo st n σ w) (kf : a = b → K (pc + 3) Lo st n σ w) : K pc Lo (zi b :: zi a :: st) n σ w := by
  obtain ⟨p, l, e, R, s, m, args, below, meth, c, Q, g, ⟨hx, hb, hml, hown, hts, hK, hin⟩, hR, hsz, rfl, hrt⟩ := C
  intro ls H locs hn hl hP hS
  have hr2 := And.intro hr.2 hr.1
  exact lv_icmp_ne hx hb d ht (fun q => kt (fun z => q ((zI_eq hr).mpr z)) ls H locs hn hl hP hS) (fun q => kf ((zI_eq hr).mp q) ls H locs hn hl hP hS)
set_option maxHeartbeats 2000000 in
theorem x_if_ne {y : MethodName} {cc : ByteArray} {ml : Nat} {ret : Option FieldType} {h mc ms n0 : Nat} {Ret : zRT} {K : zKT} (C : zX y cc ml ret h mc ms n0 Ret K) {pc : Nat} {Lo : List (Option zV)} {st : List zV} {n : Nat} {σ : zS} {w : Nat} {a : Int} {off : Int} {tgt : Nat} (d : decode cc pc = .ok (.ifCond .ne off, 3)) (ht : (pc : Int) + off = (tgt : Int)) (hr0 : -2147483648 ≤ a ∧ a < 2147483648) (kt : ¬ a = 0 → K tgt Lo st n σ w) (kf : a = 0 → K (pc + 3) Lo st n σ w) : K pc Lo (zi a :: st) n σ w := by
  obtain ⟨p, l, e, R, s, m, args, below, meth, c, Q, g, ⟨hx, hb, hml, hown, hts, hK, hin⟩, hR, hsz, rfl, hrt⟩ := C
  intro ls H locs hn hl hP hS
  have hr : (-2147483648 ≤ a ∧ a < 2147483648) ∧ (-2147483648 ≤ (0 : Int) ∧ (0 : Int) < 2147483648) := And.intro hr0 (by omega)
  have hr2 := And.intro hr.2 hr.1
  exact lv_if_ne hx hb d ht (fun q => kt (fun z => q ((zI_eq hr).mpr z)) ls H locs hn hl hP hS) (fun q => kf ((zI_eq hr).mp q) ls H locs hn hl hP hS)
set_option maxHeartbeats 2000000 in
theorem x_icmp_lt {y : MethodName} {cc : ByteArray} {ml : Nat} {ret : Option FieldType} {h mc ms n0 : Nat} {Ret : zRT} {K : zKT} (C : zX y cc ml ret h mc ms n0 Ret K) {pc : Nat} {Lo : List (Option zV)} {st : List zV} {n : Nat} {σ : zS} {w : Nat} {a b : Int} {off : Int} {tgt : Nat} (d : decode cc pc = .ok (.if_icmp .lt off, 3)) (ht : (pc : Int) + off = (tgt : Int)) (hr : (-2147483648 ≤ a ∧ a < 2147483648) ∧ (-2147483648 ≤ b ∧ b < 2147483648)) (kt : a < b → K tgt Lo st n σ w) (kf : b ≤ a → K (pc + 3) Lo st n σ w) : K pc Lo (zi b :: zi a :: st) n σ w := by
  obtain ⟨p, l, e, R, s, m, args, below, meth, c, Q, g, ⟨hx, hb, hml, hown, hts, hK, hin⟩, hR, hsz, rfl, hrt⟩ := C
  intro ls H locs hn hl hP hS
  have hr2 := And.intro hr.2 hr.1
  exact lv_icmp_lt hx hb d ht (fun q => kt ((zI_lt hr).mp q) ls H locs hn hl hP hS) (fun q => kf (Int.not_lt.mp (fun z => q ((zI_lt hr).mpr z))) ls H locs hn hl hP hS)
set_option maxHeartbeats 2000000 in
theorem x_if_lt {y : MethodName} {cc : ByteArray} {ml : Nat} {ret : Option FieldType} {h mc ms n0 : Nat} {Ret : zRT} {K : zKT} (C : zX y cc ml ret h mc ms n0 Ret K) {pc : Nat} {Lo : List (Option zV)} {st : List zV} {n : Nat} {σ : zS} {w : Nat} {a : Int} {off : Int} {tgt : Nat} (d : decode cc pc = .ok (.ifCond .lt off, 3)) (ht : (pc : Int) + off = (tgt : Int)) (hr0 : -2147483648 ≤ a ∧ a < 2147483648) (kt : a < 0 → K tgt Lo st n σ w) (kf : 0 ≤ a → K (pc + 3) Lo st n σ w) : K pc Lo (zi a :: st) n σ w := by
  obtain ⟨p, l, e, R, s, m, args, below, meth, c, Q, g, ⟨hx, hb, hml, hown, hts, hK, hin⟩, hR, hsz, rfl, hrt⟩ := C
  intro ls H locs hn hl hP hS
  have hr : (-2147483648 ≤ a ∧ a < 2147483648) ∧ (-2147483648 ≤ (0 : Int) ∧ (0 : Int) < 2147483648) := And.intro hr0 (by omega)
  have hr2 := And.intro hr.2 hr.1
  exact lv_if_lt hx hb d ht (fun q => kt ((zI_lt hr).mp q) ls H locs hn hl hP hS) (fun q => kf (Int.not_lt.mp (fun z => q ((zI_lt hr).mpr z))) ls H locs hn hl hP hS)
set_option maxHeartbeats 2000000 in
theorem x_icmp_ge {y : MethodName} {cc : ByteArray} {ml : Nat} {ret : Option FieldType} {h mc ms n0 : Nat} {Ret : zRT} {K : zKT} (C : zX y cc ml ret h mc ms n0 Ret K) {pc : Nat} {Lo : List (Option zV)} {st : List zV} {n : Nat} {σ : zS} {w : Nat} {a b : Int} {off : Int} {tgt : Nat} (d : decode cc pc = .ok (.if_icmp .ge off, 3)) (ht : (pc : Int) + off = (tgt : Int)) (hr : (-2147483648 ≤ a ∧ a < 2147483648) ∧ (-2147483648 ≤ b ∧ b < 2147483648)) (kt : b ≤ a → K tgt Lo st n σ w) (kf : a < b → K (pc + 3) Lo st n σ w) : K pc Lo (zi b :: zi a :: st) n σ w := by
  obtain ⟨p, l, e, R, s, m, args, below, meth, c, Q, g, ⟨hx, hb, hml, hown, hts, hK, hin⟩, hR, hsz, rfl, hrt⟩ := C
  intro ls H locs hn hl hP hS
  have hr2 := And.intro hr.2 hr.1
  exact lv_icmp_ge hx hb d ht (fun q => kt ((zI_le hr2).mp q) ls H locs hn hl hP hS) (fun q => kf (Int.not_le.mp (fun z => q ((zI_le hr2).mpr z))) ls H locs hn hl hP hS)
set_option maxHeartbeats 2000000 in
theorem x_if_ge {y : MethodName} {cc : ByteArray} {ml : Nat} {ret : Option FieldType} {h mc ms n0 : Nat} {Ret : zRT} {K : zKT} (C : zX y cc ml ret h mc ms n0 Ret K) {pc : Nat} {Lo : List (Option zV)} {st : List zV} {n : Nat} {σ : zS} {w : Nat} {a : Int} {off : Int} {tgt : Nat} (d : decode cc pc = .ok (.ifCond .ge off, 3)) (ht : (pc : Int) + off = (tgt : Int)) (hr0 : -2147483648 ≤ a ∧ a < 2147483648) (kt : 0 ≤ a → K tgt Lo st n σ w) (kf : a < 0 → K (pc + 3) Lo st n σ w) : K pc Lo (zi a :: st) n σ w := by
  obtain ⟨p, l, e, R, s, m, args, below, meth, c, Q, g, ⟨hx, hb, hml, hown, hts, hK, hin⟩, hR, hsz, rfl, hrt⟩ := C
  intro ls H locs hn hl hP hS
  have hr : (-2147483648 ≤ a ∧ a < 2147483648) ∧ (-2147483648 ≤ (0 : Int) ∧ (0 : Int) < 2147483648) := And.intro hr0 (by omega)
  have hr2 := And.intro hr.2 hr.1
  exact lv_if_ge hx hb d ht (fun q => kt ((zI_le hr2).mp q) ls H locs hn hl hP hS) (fun q => kf (Int.not_le.mp (fun z => q ((zI_le hr2).mpr z))) ls H locs hn hl hP hS)
set_option maxHeartbeats 2000000 in
theorem x_icmp_gt {y : MethodName} {cc : ByteArray} {ml : Nat} {ret : Option FieldType} {h mc ms n0 : Nat} {Ret : zRT} {K : zKT} (C : zX y cc ml ret h mc ms n0 Ret K) {pc : Nat} {Lo : List (Option zV)} {st : List zV} {n : Nat} {σ : zS} {w : Nat} {a b : Int} {off : Int} {tgt : Nat} (d : decode cc pc = .ok (.if_icmp .gt off, 3)) (ht : (pc : Int) + off = (tgt : Int)) (hr : (-2147483648 ≤ a ∧ a < 2147483648) ∧ (-2147483648 ≤ b ∧ b < 2147483648)) (kt : b < a → K tgt Lo st n σ w) (kf : a ≤ b → K (pc + 3) Lo st n σ w) : K pc Lo (zi b :: zi a :: st) n σ w := by
  obtain ⟨p, l, e, R, s, m, args, below, meth, c, Q, g, ⟨hx, hb, hml, hown, hts, hK, hin⟩, hR, hsz, rfl, hrt⟩ := C
  intro ls H locs hn hl hP hS
  have hr2 := And.intro hr.2 hr.1
  exact lv_icmp_gt hx hb d ht (fun q => kt ((zI_lt hr2).mp q) ls H locs hn hl hP hS) (fun q => kf (Int.not_lt.mp (fun z => q ((zI_lt hr2).mpr z))) ls H locs hn hl hP hS)
set_option maxHeartbeats 2000000 in
theorem x_if_gt {y : MethodName} {cc : ByteArray} {ml : Nat} {ret : Option FieldType} {h mc ms n0 : Nat} {Ret : zRT} {K : zKT} (C : zX y cc ml ret h mc ms n0 Ret K) {pc : Nat} {Lo : List (Option zV)} {st : List zV} {n : Nat} {σ : zS} {w : Nat} {a : Int} {off : Int} {tgt : Nat} (d : decode cc pc = .ok (.ifCond .gt off, 3)) (ht : (pc : Int) + off = (tgt : Int)) (hr0 : -2147483648 ≤ a ∧ a < 2147483648) (kt : 0 < a → K tgt Lo st n σ w) (kf : a ≤ 0 → K (pc + 3) Lo st n σ w) : K pc Lo (zi a :: st) n σ w := by
  obtain ⟨p, l, e, R, s, m, args, below, meth, c, Q, g, ⟨hx, hb, hml, hown, hts, hK, hin⟩, hR, hsz, rfl, hrt⟩ := C
  intro ls H locs hn hl hP hS
  have hr : (-2147483648 ≤ a ∧ a < 2147483648) ∧ (-2147483648 ≤ (0 : Int) ∧ (0 : Int) < 2147483648) := And.intro hr0 (by omega)
  have hr2 := And.intro hr.2 hr.1
  exact lv_if_gt hx hb d ht (fun q => kt ((zI_lt hr2).mp q) ls H locs hn hl hP hS) (fun q => kf (Int.not_lt.mp (fun z => q ((zI_lt hr2).mpr z))) ls H locs hn hl hP hS)
set_option maxHeartbeats 2000000 in
theorem x_icmp_le {y : MethodName} {cc : ByteArray} {ml : Nat} {ret : Option FieldType} {h mc ms n0 : Nat} {Ret : zRT} {K : zKT} (C : zX y cc ml ret h mc ms n0 Ret K) {pc : Nat} {Lo : List (Option zV)} {st : List zV} {n : Nat} {σ : zS} {w : Nat} {a b : Int} {off : Int} {tgt : Nat} (d : decode cc pc = .ok (.if_icmp .le off, 3)) (ht : (pc : Int) + off = (tgt : Int)) (hr : (-2147483648 ≤ a ∧ a < 2147483648) ∧ (-2147483648 ≤ b ∧ b < 2147483648)) (kt : a ≤ b → K tgt Lo st n σ w) (kf : b < a → K (pc + 3) Lo st n σ w) : K pc Lo (zi b :: zi a :: st) n σ w := by
  obtain ⟨p, l, e, R, s, m, args, below, meth, c, Q, g, ⟨hx, hb, hml, hown, hts, hK, hin⟩, hR, hsz, rfl, hrt⟩ := C
  intro ls H locs hn hl hP hS
  have hr2 := And.intro hr.2 hr.1
  exact lv_icmp_le hx hb d ht (fun q => kt ((zI_le hr).mp q) ls H locs hn hl hP hS) (fun q => kf (Int.not_le.mp (fun z => q ((zI_le hr).mpr z))) ls H locs hn hl hP hS)
set_option maxHeartbeats 2000000 in
theorem x_if_le {y : MethodName} {cc : ByteArray} {ml : Nat} {ret : Option FieldType} {h mc ms n0 : Nat} {Ret : zRT} {K : zKT} (C : zX y cc ml ret h mc ms n0 Ret K) {pc : Nat} {Lo : List (Option zV)} {st : List zV} {n : Nat} {σ : zS} {w : Nat} {a : Int} {off : Int} {tgt : Nat} (d : decode cc pc = .ok (.ifCond .le off, 3)) (ht : (pc : Int) + off = (tgt : Int)) (hr0 : -2147483648 ≤ a ∧ a < 2147483648) (kt : a ≤ 0 → K tgt Lo st n σ w) (kf : 0 < a → K (pc + 3) Lo st n σ w) : K pc Lo (zi a :: st) n σ w := by
  obtain ⟨p, l, e, R, s, m, args, below, meth, c, Q, g, ⟨hx, hb, hml, hown, hts, hK, hin⟩, hR, hsz, rfl, hrt⟩ := C
  intro ls H locs hn hl hP hS
  have hr : (-2147483648 ≤ a ∧ a < 2147483648) ∧ (-2147483648 ≤ (0 : Int) ∧ (0 : Int) < 2147483648) := And.intro hr0 (by omega)
  have hr2 := And.intro hr.2 hr.1
  exact lv_if_le hx hb d ht (fun q => kt ((zI_le hr).mp q) ls H locs hn hl hP hS) (fun q => kf (Int.not_le.mp (fun z => q ((zI_le hr).mpr z))) ls H locs hn hl hP hS)
set_option maxHeartbeats 2000000 in
theorem x_icmp_eqr {y : MethodName} {cc : ByteArray} {ml : Nat} {ret : Option FieldType} {h mc ms n0 : Nat} {Ret : zRT} {K : zKT} (C : zX y cc ml ret h mc ms n0 Ret K) {pc : Nat} {Lo : List (Option zV)} {st : List zV} {n : Nat} {σ : zS} {w : Nat} {a b : Int} {off : Int} {tgt : Nat} (d : decode cc pc = .ok (.if_icmp .eq off, 3)) (ht : (pc : Int) + off = (tgt : Int)) (hab : a = b) (kt : K tgt Lo st n σ w) : K pc Lo (zi b :: zi a :: st) n σ w := by
  obtain ⟨p, l, e, R, s, m, args, below, meth, c, Q, g, ⟨hx, hb, hml, hown, hts, hK, hin⟩, hR, hsz, rfl, hrt⟩ := C
  intro ls H locs hn hl hP hS
  subst hab
  exact lv_icmp_eq hx hb d ht (fun q => kt ls H locs hn hl hP hS) (fun q => absurd rfl q)
set_option maxHeartbeats 2000000 in
theorem x_ifeq_b {y : MethodName} {cc : ByteArray} {ml : Nat} {ret : Option FieldType} {h mc ms n0 : Nat} {Ret : zRT} {K : zKT} (C : zX y cc ml ret h mc ms n0 Ret K) {pc : Nat} {Lo : List (Option zV)} {st : List zV} {n : Nat} {σ : zS} {w : Nat} {b : Bool} {off : Int} {tgt : Nat} (d : decode cc pc = .ok (.ifCond .eq off, 3)) (ht : (pc : Int) + off = (tgt : Int)) (kt : b = false → K tgt Lo st n σ w) (kf : b = true → K (pc + 3) Lo st n σ w) : K pc Lo (zi (zb b) :: st) n σ w := by
  obtain ⟨p, l, e, R, s, m, args, below, meth, c, Q, g, ⟨hx, hb, hml, hown, hts, hK, hin⟩, hR, hsz, rfl, hrt⟩ := C
  intro ls H locs hn hl hP hS
  cases b with
  | false => exact lv_if_eq hx hb d ht (fun q => kt rfl ls H locs hn hl hP hS) (fun q => absurd rfl q)
  | true => exact lv_if_eq hx hb d ht (fun q => absurd q (by decide)) (fun q => kf rfl ls H locs hn hl hP hS)
set_option maxHeartbeats 2000000 in
theorem x_ifne_b {y : MethodName} {cc : ByteArray} {ml : Nat} {ret : Option FieldType} {h mc ms n0 : Nat} {Ret : zRT} {K : zKT} (C : zX y cc ml ret h mc ms n0 Ret K) {pc : Nat} {Lo : List (Option zV)} {st : List zV} {n : Nat} {σ : zS} {w : Nat} {b : Bool} {off : Int} {tgt : Nat} (d : decode cc pc = .ok (.ifCond .ne off, 3)) (ht : (pc : Int) + off = (tgt : Int)) (kt : b = true → K tgt Lo st n σ w) (kf : b = false → K (pc + 3) Lo st n σ w) : K pc Lo (zi (zb b) :: st) n σ w := by
  obtain ⟨p, l, e, R, s, m, args, below, meth, c, Q, g, ⟨hx, hb, hml, hown, hts, hK, hin⟩, hR, hsz, rfl, hrt⟩ := C
  intro ls H locs hn hl hP hS
  cases b with
  | true => exact lv_if_ne hx hb d ht (fun q => kt rfl ls H locs hn hl hP hS) (fun q => absurd q (by decide))
  | false => exact lv_if_ne hx hb d ht (fun q => absurd rfl q) (fun q => kf rfl ls H locs hn hl hP hS)
set_option maxHeartbeats 2000000 in
theorem x_tableIn {y : MethodName} {cc : ByteArray} {ml : Nat} {ret : Option FieldType} {h mc ms n0 : Nat} {Ret : zRT} {K : zKT} (C : zX y cc ml ret h mc ms n0 Ret K) {pc : Nat} {Lo : List (Option zV)} {st : List zV} {n : Nat} {σ : zS} {w : Nat} {a : Int} {dflt lo hi : Int} {offs : Array Int} {len : Nat} {off : Int} {tgt : Nat} (d : decode cc pc = .ok (.tableswitch dflt lo hi offs, len)) (hr : (-2147483648 ≤ a ∧ a < 2147483648) ∧ lo ≤ a ∧ a ≤ hi) (ho : offs[(a - lo).toNat]? = some off) (ht : (pc : Int) + off = (tgt : Int)) (k : K tgt Lo st n σ w) : K pc Lo (zi a :: st) n σ w := by
  obtain ⟨p, l, e, R, s, m, args, below, meth, c, Q, g, ⟨hx, hb, hml, hown, hts, hK, hin⟩, hR, hsz, rfl, hrt⟩ := C
  intro ls H locs hn hl hP hS
  refine lv_tableIn hx hb d ?_ ?_ ?_ ht (k ls H locs hn hl hP hS)
  · rw [zI_t hr.1]; omega
  · rw [zI_t hr.1]; omega
  · rw [zI_t hr.1]; exact ho
set_option maxHeartbeats 2000000 in
theorem x_tableOut {y : MethodName} {cc : ByteArray} {ml : Nat} {ret : Option FieldType} {h mc ms n0 : Nat} {Ret : zRT} {K : zKT} (C : zX y cc ml ret h mc ms n0 Ret K) {pc : Nat} {Lo : List (Option zV)} {st : List zV} {n : Nat} {σ : zS} {w : Nat} {a : Int} {dflt lo hi : Int} {offs : Array Int} {len : Nat} {tgt : Nat} (d : decode cc pc = .ok (.tableswitch dflt lo hi offs, len)) (hr : (-2147483648 ≤ a ∧ a < 2147483648) ∧ (a < lo ∨ hi < a)) (ht : (pc : Int) + dflt = (tgt : Int)) (k : K tgt Lo st n σ w) : K pc Lo (zi a :: st) n σ w := by
  obtain ⟨p, l, e, R, s, m, args, below, meth, c, Q, g, ⟨hx, hb, hml, hown, hts, hK, hin⟩, hR, hsz, rfl, hrt⟩ := C
  intro ls H locs hn hl hP hS
  refine lv_tableOut hx hb d ?_ ht (k ls H locs hn hl hP hS)
  rw [zI_t hr.1]; exact hr.2
set_option maxHeartbeats 2000000 in
theorem x_lookup {y : MethodName} {cc : ByteArray} {ml : Nat} {ret : Option FieldType} {h mc ms n0 : Nat} {Ret : zRT} {K : zKT} (C : zX y cc ml ret h mc ms n0 Ret K) {pc : Nat} {Lo : List (Option zV)} {st : List zV} {n : Nat} {σ : zS} {w : Nat} {a : Int} {dflt : Int} {ps : Array (Int × Int)} {len : Nat} {off : Int} {tgt : Nat} (d : decode cc pc = .ok (.lookupswitch dflt ps, len)) (hr : -2147483648 ≤ a ∧ a < 2147483648) (hp : (ps.toList.zip (ps.toList.drop 1)).all (fun (a, next) => a.1 < next.1) = true) (ho : Op.lookupswitch.offset ps.toList dflt a = off) (ht : (pc : Int) + off = (tgt : Int)) (k : K tgt Lo st n σ w) : K pc Lo (zi a :: st) n σ w := by
  obtain ⟨p, l, e, R, s, m, args, below, meth, c, Q, g, ⟨hx, hb, hml, hown, hts, hK, hin⟩, hR, hsz, rfl, hrt⟩ := C
  intro ls H locs hn hl hP hS
  refine lv_lookup hx hb d hp ?_ ht (k ls H locs hn hl hP hS)
  rw [zI_t hr]; exact ho
set_option maxHeartbeats 2000000 in
theorem x_weak {y : MethodName} {cc : ByteArray} {ml : Nat} {ret : Option FieldType} {h mc ms n0 : Nat} {Ret : zRT} {K : zKT} (C : zX y cc ml ret h mc ms n0 Ret K) {pc : Nat} {Lo : List (Option zV)} {st : List zV} {n : Nat} {σ : zS} {w : Nat} {Lo' : List (Option zV)} (hw : ∀ (j : Nat) (u : zV), zg Lo' j = some u → zg Lo j = some u) (k : K pc Lo' st n σ w) : K pc Lo st n σ w := by
  obtain ⟨p, l, e, R, s, m, args, below, meth, c, Q, g, ⟨hx, hb, hml, hown, hts, hK, hin⟩, hR, hsz, rfl, hrt⟩ := C
  intro ls H locs hn hl hP hS
  exact k ls H locs hn (hl.weak hw) hP hS
set_option maxHeartbeats 2000000 in
theorem x_vret {y : MethodName} {cc : ByteArray} {ml : Nat} {ret : Option FieldType} {h mc ms n0 : Nat} {Ret : zRT} {K : zKT} (C : zX y cc ml ret h mc ms n0 Ret K) {pc : Nat} {Lo : List (Option zV)} {st : List zV} {n : Nat} {σ : zS} {w : Nat} (d : decode cc pc = .ok (.return_, 1)) (hy : ret = none) (hR : Ret none n σ w) : K pc Lo [] n σ w := by
  obtain ⟨p, l, e, R, s, m, args, below, meth, c, Q, g, hF, hRm, hsz, hKe, hrt⟩ := C
  exact hrt none pc Lo [] n σ w (Or.inl ⟨d, hy, rfl, rfl⟩) hR
set_option maxHeartbeats 2000000 in
theorem x_iret {y : MethodName} {cc : ByteArray} {ml : Nat} {ret : Option FieldType} {h mc ms n0 : Nat} {Ret : zRT} {K : zKT} (C : zX y cc ml ret h mc ms n0 Ret K) {pc : Nat} {Lo : List (Option zV)} {st : List zV} {n : Nat} {σ : zS} {w : Nat} {x : Int} (d : decode cc pc = .ok (.ireturn, 1)) (hy : ret = some .int) (hR : Ret (some (zi x)) n σ w) : K pc Lo [zi x] n σ w := by
  obtain ⟨p, l, e, R, s, m, args, below, meth, c, Q, g, hF, hRm, hsz, hKe, hrt⟩ := C
  exact hrt _ pc Lo [zi x] n σ w (Or.inr (Or.inl ⟨d, hy, x, rfl, rfl⟩)) hR
set_option maxHeartbeats 2000000 in
theorem x_zret {y : MethodName} {cc : ByteArray} {ml : Nat} {ret : Option FieldType} {h mc ms n0 : Nat} {Ret : zRT} {K : zKT} (C : zX y cc ml ret h mc ms n0 Ret K) {pc : Nat} {Lo : List (Option zV)} {st : List zV} {n : Nat} {σ : zS} {w : Nat} {b : Bool} (d : decode cc pc = .ok (.ireturn, 1)) (hy : ret = some .boolean) (hR : Ret (some (zi (zb b))) n σ w) : K pc Lo [zi (zb b)] n σ w := by
  obtain ⟨p, l, e, R, s, m, args, below, meth, c, Q, g, hF, hRm, hsz, hKe, hrt⟩ := C
  exact hrt _ pc Lo [zi (zb b)] n σ w (Or.inr (Or.inr (Or.inl ⟨d, hy, zb b, zb_01 b, rfl, rfl⟩))) hR
set_option maxHeartbeats 2000000 in
theorem x_lret {y : MethodName} {cc : ByteArray} {ml : Nat} {ret : Option FieldType} {h mc ms n0 : Nat} {Ret : zRT} {K : zKT} (C : zX y cc ml ret h mc ms n0 Ret K) {pc : Nat} {Lo : List (Option zV)} {st : List zV} {n : Nat} {σ : zS} {w : Nat} {x : Int} (d : decode cc pc = .ok (.lreturn, 1)) (hy : ret = some .long) (hR : Ret (some (zl x)) n σ w) : K pc Lo [zl x] n σ w := by
  obtain ⟨p, l, e, R, s, m, args, below, meth, c, Q, g, hF, hRm, hsz, hKe, hrt⟩ := C
  exact hrt _ pc Lo [zl x] n σ w (Or.inr (Or.inr (Or.inr ⟨d, hy, x, rfl, rfl⟩))) hR
end
section
set_option maxHeartbeats 2000000 in
theorem x_getfield {y : MethodName} {cc : ByteArray} {ml : Nat} {ret : Option FieldType} {h mc ms n0 : Nat} {Ret : zRT} {K : zKT} (C : zX y cc ml ret h mc ms n0 Ret K) {pc : Nat} {Lo : List (Option zV)} {st : List zV} {n : Nat} {σ : zS} {w : Nat} {idx ci j : Nat} {o : Int} {vs : List zV} {v : zV} (d : decode cc pc = .ok (.getfield idx, 3)) (lf : zFl y.cls idx ci j) (ho : σ o = zO ci vs) (hk : 0 < o ∧ o ≤ n) (hv : vs[j]? = some v) (k : K (pc + 3) Lo (v :: st) n σ w) : K pc Lo (zr o :: st) n σ w := by
  obtain ⟨p, l, e, R, s, m, args, below, meth, c, Q, g, ⟨hx, hb, hml, hown, hts, hK, hin⟩, hR, hsz, rfl, hrt⟩ := C
  intro ls H locs hn hl hP hS
  obtain ⟨CC, T, N, h1, h2, h3, h4⟩ := lf
  have hat := zW_at g σ hk
  rw [ho] at hat
  exact va_get hx hb hts h4 hown hK.1 hP.2.2 (o - 1).toNat hat h1 j h2 (hts _ h3) (fun _ q => q) (v := zv g v) (by rw [List.getElem?_map, hv]; rfl) d (k ls H locs hn hl hP hS)
set_option maxHeartbeats 2000000 in
theorem x_getfieldN {y : MethodName} {cc : ByteArray} {ml : Nat} {ret : Option FieldType} {h mc ms n0 : Nat} {Ret : zRT} {K : zKT} (C : zX y cc ml ret h mc ms n0 Ret K) {pc : Nat} {Lo : List (Option zV)} {st : List zV} {n : Nat} {σ : zS} {w : Nat} {idx ci j : Nat} {o : Int} {vs : List zV} {v : zV} (d : decode cc pc = .ok (.getfield idx, 3)) (lf : zFn y.cls idx ci j) (ho : σ o = zO ci vs) (hk : 0 < o ∧ o ≤ n) (hv : vs[j]? = some v) (k : K (pc + 3) Lo (v :: st) n σ w) : K pc Lo (zr o :: st) n σ w := by
  obtain ⟨p, l, e, R, s, m, args, below, meth, c, Q, g, ⟨hx, hb, hml, hown, hts, hK, hin⟩, hR, hsz, rfl, hrt⟩ := C
  intro ls H locs hn hl hP hS
  obtain ⟨CC, T, N, h1, h2, h3, h4⟩ := lf
  have hat := zW_at g σ hk
  rw [ho] at hat
  exact va_getN hx hb hts h4 hown hK.1 hP.2.2 (o - 1).toNat hat h1 j h2 (va_Nw.use rfl (hK.2.1 _ h3)) (fun _ q => q) (v := zv g v) (by rw [List.getElem?_map, hv]; rfl) d (k ls H locs hn hl hP hS)
set_option maxHeartbeats 2000000 in
theorem x_putI {y : MethodName} {cc : ByteArray} {ml : Nat} {ret : Option FieldType} {h mc ms n0 : Nat} {Ret : zRT} {K : zKT} (C : zX y cc ml ret h mc ms n0 Ret K) {pc : Nat} {Lo : List (Option zV)} {st : List zV} {n : Nat} {σ : zS} {w : Nat} {idx ci j : Nat} {o : Int} {vs : List zV} {x : Int} (d : decode cc pc = .ok (.putfield idx, 3)) (lf : zFl y.cls idx ci j) (ly : zFy ci j false .int)  (ho : σ o = zO ci vs) (hk : 0 < o ∧ o ≤ n) (hj : j < vs.length) (k : K (pc + 3) Lo st n (zsu σ o (zO ci (vs.set j (zi x)))) w) : K pc Lo (zi x :: zr o :: st) n σ w := by
  obtain ⟨p, l, e, R, s, m, args, below, meth, c, Q, g, ⟨hx, hb, hml, hown, hts, hK, hin⟩, hR, hsz, rfl, hrt⟩ := C
  intro ls H locs hn hl hP hS
  obtain ⟨CC, T, N, h1, h2, h3, h4⟩ := lf
  obtain ⟨⟨ty0, f1⟩, f2, f3, f4, f5⟩ := ly CC T N h1
  have hat := zW_at g σ hk
  rw [ho] at hat
  refine va_put hx hb hts h4 ty0 f1 f2 hown hK.1 hP.2.2 (zD g n σ) hS (o - 1).toNat hat h1 j h2 (hts _ h3) (fun _ q => q) f3 f5 (v := zv g (zi x)) rfl rfl (by rw [List.length_map]; exact hj) d (fun H1 locs1 hP1 _ hS1 => ?_)
  refine k ls H1 locs1 hn hl (hP.set hk ?_) hS1
  have e : zc g (zO ci (vs.set j (zi x))) = Sum.inr (ci, (vs.map (zv g)).set j (zv g (zi x))) := by
    rw [← List.map_set]
    rfl
  rw [e]
  exact hP1
set_option maxHeartbeats 2000000 in
theorem x_putIN {y : MethodName} {cc : ByteArray} {ml : Nat} {ret : Option FieldType} {h mc ms n0 : Nat} {Ret : zRT} {K : zKT} (C : zX y cc ml ret h mc ms n0 Ret K) {pc : Nat} {Lo : List (Option zV)} {st : List zV} {n : Nat} {σ : zS} {w : Nat} {idx ci j : Nat} {o : Int} {vs : List zV} {x : Int} (d : decode cc pc = .ok (.putfield idx, 3)) (lf : zFn y.cls idx ci j) (ly : zFy ci j false .int)  (ho : σ o = zO ci vs) (hk : 0 < o ∧ o ≤ n) (hj : j < vs.length) (k : K (pc + 3) Lo st n (zsu σ o (zO ci (vs.set j (zi x)))) w) : K pc Lo (zi x :: zr o :: st) n σ w := by
  obtain ⟨p, l, e, R, s, m, args, below, meth, c, Q, g, ⟨hx, hb, hml, hown, hts, hK, hin⟩, hR, hsz, rfl, hrt⟩ := C
  intro ls H locs hn hl hP hS
  obtain ⟨CC, T, N, h1, h2, h3, h4⟩ := lf
  obtain ⟨⟨ty0, f1⟩, f2, f3, f4, f5⟩ := ly CC T N h1
  have hat := zW_at g σ hk
  rw [ho] at hat
  refine va_putN hx hb hts h4 ty0 f1 f2 hown hK.1 hP.2.2 (zD g n σ) hS (o - 1).toNat hat h1 j h2 (va_Nw.use rfl (hK.2.1 _ h3)) (fun _ q => q) f3 f5 (v := zv g (zi x)) rfl rfl (by rw [List.length_map]; exact hj) d (fun H1 locs1 hP1 _ hS1 => ?_)
  refine k ls H1 locs1 hn hl (hP.set hk ?_) hS1
  have e : zc g (zO ci (vs.set j (zi x))) = Sum.inr (ci, (vs.map (zv g)).set j (zv g (zi x))) := by
    rw [← List.map_set]
    rfl
  rw [e]
  exact hP1
set_option maxHeartbeats 2000000 in
theorem x_putZ {y : MethodName} {cc : ByteArray} {ml : Nat} {ret : Option FieldType} {h mc ms n0 : Nat} {Ret : zRT} {K : zKT} (C : zX y cc ml ret h mc ms n0 Ret K) {pc : Nat} {Lo : List (Option zV)} {st : List zV} {n : Nat} {σ : zS} {w : Nat} {idx ci j : Nat} {o : Int} {vs : List zV} {x : Int} (d : decode cc pc = .ok (.putfield idx, 3)) (lf : zFl y.cls idx ci j) (ly : zFy ci j false .boolean) (hx01 : x = 0 ∨ x = 1) (ho : σ o = zO ci vs) (hk : 0 < o ∧ o ≤ n) (hj : j < vs.length) (k : K (pc + 3) Lo st n (zsu σ o (zO ci (vs.set j (zi x)))) w) : K pc Lo (zi x :: zr o :: st) n σ w := by
  obtain ⟨p, l, e, R, s, m, args, below, meth, c, Q, g, ⟨hx, hb, hml, hown, hts, hK, hin⟩, hR, hsz, rfl, hrt⟩ := C
  intro ls H locs hn hl hP hS
  obtain ⟨CC, T, N, h1, h2, h3, h4⟩ := lf
  obtain ⟨⟨ty0, f1⟩, f2, f3, f4, f5⟩ := ly CC T N h1
  have hat := zW_at g σ hk
  rw [ho] at hat
  refine va_put hx hb hts h4 ty0 f1 f2 hown hK.1 hP.2.2 (zD g n σ) hS (o - 1).toNat hat h1 j h2 (hts _ h3) (fun _ q => q) f3 f5 (v := zv g (zi x)) (by rcases hx01 with rfl | rfl <;> rfl) (by rcases hx01 with rfl | rfl <;> rfl) (by rw [List.length_map]; exact hj) d (fun H1 locs1 hP1 _ hS1 => ?_)
  refine k ls H1 locs1 hn hl (hP.set hk ?_) hS1
  have e : zc g (zO ci (vs.set j (zi x))) = Sum.inr (ci, (vs.map (zv g)).set j (zv g (zi x))) := by
    rw [← List.map_set]
    rfl
  rw [e]
  exact hP1
set_option maxHeartbeats 2000000 in
theorem x_putZN {y : MethodName} {cc : ByteArray} {ml : Nat} {ret : Option FieldType} {h mc ms n0 : Nat} {Ret : zRT} {K : zKT} (C : zX y cc ml ret h mc ms n0 Ret K) {pc : Nat} {Lo : List (Option zV)} {st : List zV} {n : Nat} {σ : zS} {w : Nat} {idx ci j : Nat} {o : Int} {vs : List zV} {x : Int} (d : decode cc pc = .ok (.putfield idx, 3)) (lf : zFn y.cls idx ci j) (ly : zFy ci j false .boolean) (hx01 : x = 0 ∨ x = 1) (ho : σ o = zO ci vs) (hk : 0 < o ∧ o ≤ n) (hj : j < vs.length) (k : K (pc + 3) Lo st n (zsu σ o (zO ci (vs.set j (zi x)))) w) : K pc Lo (zi x :: zr o :: st) n σ w := by
  obtain ⟨p, l, e, R, s, m, args, below, meth, c, Q, g, ⟨hx, hb, hml, hown, hts, hK, hin⟩, hR, hsz, rfl, hrt⟩ := C
  intro ls H locs hn hl hP hS
  obtain ⟨CC, T, N, h1, h2, h3, h4⟩ := lf
  obtain ⟨⟨ty0, f1⟩, f2, f3, f4, f5⟩ := ly CC T N h1
  have hat := zW_at g σ hk
  rw [ho] at hat
  refine va_putN hx hb hts h4 ty0 f1 f2 hown hK.1 hP.2.2 (zD g n σ) hS (o - 1).toNat hat h1 j h2 (va_Nw.use rfl (hK.2.1 _ h3)) (fun _ q => q) f3 f5 (v := zv g (zi x)) (by rcases hx01 with rfl | rfl <;> rfl) (by rcases hx01 with rfl | rfl <;> rfl) (by rw [List.length_map]; exact hj) d (fun H1 locs1 hP1 _ hS1 => ?_)
  refine k ls H1 locs1 hn hl (hP.set hk ?_) hS1
  have e : zc g (zO ci (vs.set j (zi x))) = Sum.inr (ci, (vs.map (zv g)).set j (zv g (zi x))) := by
    rw [← List.map_set]
    rfl
  rw [e]
  exact hP1
set_option maxHeartbeats 2000000 in
theorem x_putFA {y : MethodName} {cc : ByteArray} {ml : Nat} {ret : Option FieldType} {h mc ms n0 : Nat} {Ret : zRT} {K : zKT} (C : zX y cc ml ret h mc ms n0 Ret K) {pc : Nat} {Lo : List (Option zV)} {st : List zV} {n : Nat} {σ : zS} {w : Nat} {idx ci j : Nat} {o : Int} {vs : List zV} {fa : FieldType} {x : Int} (d : decode cc pc = .ok (.putfield idx, 3)) (lf : zFl y.cls idx ci j) (ly : zFy ci j true (.array fa)) (hini : y.name = "<init>") (hdecl : ∀ (C0 : String) (T0 : u_T) (N0 : Nat), vwCl[ci]? = some (C0, T0, N0) → C0 = y.cls) (ho : σ o = zO ci vs) (hk : 0 < o ∧ o ≤ n) (hj : j < vs.length) (k : K (pc + 3) Lo st n (zsu σ o (zO ci (vs.set j (zr x)))) w) : K pc Lo (zr x :: zr o :: st) n σ w := by
  obtain ⟨p, l, e, R, s, m, args, below, meth, c, Q, g, ⟨hx, hb, hml, hown, hts, hK, hin⟩, hR, hsz, rfl, hrt⟩ := C
  intro ls H locs hn hl hP hS
  obtain ⟨CC, T, N, h1, h2, h3, h4⟩ := lf
  obtain ⟨⟨ty0, f1⟩, f2, f3, f4, f5⟩ := ly CC T N h1
  have hat := zW_at g σ hk
  rw [ho] at hat
  refine va_putF hx hb hts h4 ty0 f1 f2 hown hK.1 hP.2.2 (zD g n σ) hS (o - 1).toNat hat h1 j h2 (hts _ h3) (fun _ q => q) f3 (hin.trans hini) (f4.trans (hdecl CC T N h1)) f5 (v := zv g (zr x)) rfl rfl (by rw [List.length_map]; exact hj) d (fun H1 locs1 hP1 _ hS1 => ?_)
  refine k ls H1 locs1 hn hl (hP.set hk ?_) hS1
  have e : zc g (zO ci (vs.set j (zr x))) = Sum.inr (ci, (vs.map (zv g)).set j (zv g (zr x))) := by
    rw [← List.map_set]
    rfl
  rw [e]
  exact hP1
set_option maxHeartbeats 2000000 in
theorem x_putFO {y : MethodName} {cc : ByteArray} {ml : Nat} {ret : Option FieldType} {h mc ms n0 : Nat} {Ret : zRT} {K : zKT} (C : zX y cc ml ret h mc ms n0 Ret K) {pc : Nat} {Lo : List (Option zV)} {st : List zV} {n : Nat} {σ : zS} {w : Nat} {idx ci j : Nat} {o : Int} {vs : List zV} {fa : String} {x : Int} (d : decode cc pc = .ok (.putfield idx, 3)) (lf : zFl y.cls idx ci j) (ly : zFy ci j true (.object fa)) (hini : y.name = "<init>") (hdecl : ∀ (C0 : String) (T0 : u_T) (N0 : Nat), vwCl[ci]? = some (C0, T0, N0) → C0 = y.cls) (ho : σ o = zO ci vs) (hk : 0 < o ∧ o ≤ n) (hj : j < vs.length) (k : K (pc + 3) Lo st n (zsu σ o (zO ci (vs.set j (zr x)))) w) : K pc Lo (zr x :: zr o :: st) n σ w := by
  obtain ⟨p, l, e, R, s, m, args, below, meth, c, Q, g, ⟨hx, hb, hml, hown, hts, hK, hin⟩, hR, hsz, rfl, hrt⟩ := C
  intro ls H locs hn hl hP hS
  obtain ⟨CC, T, N, h1, h2, h3, h4⟩ := lf
  obtain ⟨⟨ty0, f1⟩, f2, f3, f4, f5⟩ := ly CC T N h1
  have hat := zW_at g σ hk
  rw [ho] at hat
  refine va_putF hx hb hts h4 ty0 f1 f2 hown hK.1 hP.2.2 (zD g n σ) hS (o - 1).toNat hat h1 j h2 (hts _ h3) (fun _ q => q) f3 (hin.trans hini) (f4.trans (hdecl CC T N h1)) f5 (v := zv g (zr x)) rfl rfl (by rw [List.length_map]; exact hj) d (fun H1 locs1 hP1 _ hS1 => ?_)
  refine k ls H1 locs1 hn hl (hP.set hk ?_) hS1
  have e : zc g (zO ci (vs.set j (zr x))) = Sum.inr (ci, (vs.map (zv g)).set j (zv g (zr x))) := by
    rw [← List.map_set]
    rfl
  rw [e]
  exact hP1
set_option maxHeartbeats 2000000 in
theorem x_iaload {y : MethodName} {cc : ByteArray} {ml : Nat} {ret : Option FieldType} {h mc ms n0 : Nat} {Ret : zRT} {K : zKT} (C : zX y cc ml ret h mc ms n0 Ret K) {pc : Nat} {Lo : List (Option zV)} {st : List zV} {n : Nat} {σ : zS} {w : Nat} {a : Int} {L : Nat} {f : Int → Int} {i : Int} (d : decode cc pc = .ok (.iaload, 1)) (ho : σ a = zP 0 L f) (hr : (0 < a ∧ a ≤ n) ∧ (0 ≤ i ∧ i < L) ∧ (L : Int) < 2147483648) (k : K (pc + 1) Lo (zi (f i) :: st) n σ w) : K pc Lo (zi i :: zr a :: st) n σ w := by
  obtain ⟨p, l, e, R, s, m, args, below, meth, c, Q, g, ⟨hx, hb, hml, hown, hts, hK, hin⟩, hR, hsz, rfl, hrt⟩ := C
  intro ls H locs hn hl hP hS
  have hat := zW_at g σ hr.1
  rw [ho] at hat
  refine va_iald hx hb hK.1 hP.2.2 (a - 1).toNat 0 hat rfl (zI_in (L := L) hr.2.1 (by omega)) d ?_
  rw [zI_cl (by omega), Int.toNat_of_nonneg hr.2.1.1]
  exact k ls H locs hn hl hP hS
set_option maxHeartbeats 2000000 in
theorem x_baload {y : MethodName} {cc : ByteArray} {ml : Nat} {ret : Option FieldType} {h mc ms n0 : Nat} {Ret : zRT} {K : zKT} (C : zX y cc ml ret h mc ms n0 Ret K) {pc : Nat} {Lo : List (Option zV)} {st : List zV} {n : Nat} {σ : zS} {w : Nat} {a : Int} {L : Nat} {f : Int → Int} {i : Int} (d : decode cc pc = .ok (.baload, 1)) (ho : σ a = zP 1 L f) (hr : (0 < a ∧ a ≤ n) ∧ (0 ≤ i ∧ i < L) ∧ (L : Int) < 2147483648) (k : K (pc + 1) Lo (zi (f i) :: st) n σ w) : K pc Lo (zi i :: zr a :: st) n σ w := by
  obtain ⟨p, l, e, R, s, m, args, below, meth, c, Q, g, ⟨hx, hb, hml, hown, hts, hK, hin⟩, hR, hsz, rfl, hrt⟩ := C
  intro ls H locs hn hl hP hS
  have hat := zW_at g σ hr.1
  rw [ho] at hat
  refine va_zald hx hb hK.1 hP.2.2 (a - 1).toNat 1 hat rfl (zI_in (L := L) hr.2.1 (by omega)) d ?_
  rw [zI_cl (by omega), Int.toNat_of_nonneg hr.2.1.1]
  exact k ls H locs hn hl hP hS
set_option maxHeartbeats 2000000 in
theorem x_caload {y : MethodName} {cc : ByteArray} {ml : Nat} {ret : Option FieldType} {h mc ms n0 : Nat} {Ret : zRT} {K : zKT} (C : zX y cc ml ret h mc ms n0 Ret K) {pc : Nat} {Lo : List (Option zV)} {st : List zV} {n : Nat} {σ : zS} {w : Nat} {a : Int} {L : Nat} {f : Int → Int} {i : Int} (d : decode cc pc = .ok (.caload, 1)) (ho : σ a = zP 2 L f) (hr : (0 < a ∧ a ≤ n) ∧ (0 ≤ i ∧ i < L) ∧ (L : Int) < 2147483648) (k : K (pc + 1) Lo (zi (f i) :: st) n σ w) : K pc Lo (zi i :: zr a :: st) n σ w := by
  obtain ⟨p, l, e, R, s, m, args, below, meth, c, Q, g, ⟨hx, hb, hml, hown, hts, hK, hin⟩, hR, hsz, rfl, hrt⟩ := C
  intro ls H locs hn hl hP hS
  have hat := zW_at g σ hr.1
  rw [ho] at hat
  refine va_cald hx hb hK.1 hP.2.2 (a - 1).toNat 2 hat rfl (zI_in (L := L) hr.2.1 (by omega)) d ?_
  rw [zI_cl (by omega), Int.toNat_of_nonneg hr.2.1.1]
  exact k ls H locs hn hl hP hS
set_option maxHeartbeats 2000000 in
theorem x_iastore {y : MethodName} {cc : ByteArray} {ml : Nat} {ret : Option FieldType} {h mc ms n0 : Nat} {Ret : zRT} {K : zKT} (C : zX y cc ml ret h mc ms n0 Ret K) {pc : Nat} {Lo : List (Option zV)} {st : List zV} {n : Nat} {σ : zS} {w : Nat} {a : Int} {L : Nat} {f : Int → Int} {i x : Int} (d : decode cc pc = .ok (.iastore, 1)) (ho : σ a = zP 0 L f) (hr : (0 < a ∧ a ≤ n) ∧ (0 ≤ i ∧ i < L) ∧ (L : Int) < 2147483648)  (k : K (pc + 1) Lo st n (zsu σ a (zP 0 L (zu f i x))) w) : K pc Lo (zi x :: zi i :: zr a :: st) n σ w := by
  obtain ⟨p, l, e, R, s, m, args, below, meth, c, Q, g, ⟨hx, hb, hml, hown, hts, hK, hin⟩, hR, hsz, rfl, hrt⟩ := C
  intro ls H locs hn hl hP hS
  have hat := zW_at g σ hr.1
  rw [ho] at hat
  refine va_iast hx hb hK.1 hP.2.2 (zD g n σ) hS (a - 1).toNat 0 hat rfl (zI_in (L := L) hr.2.1 (by omega)) d (fun H1 locs1 hP1 _ hS1 => ?_)
  rw [zI_cl (by omega), zI_upd f x hr.2.1.1] at hP1
  exact k ls H1 locs1 hn hl (hP.set hr.1 hP1) hS1
set_option maxHeartbeats 2000000 in
theorem x_bastore {y : MethodName} {cc : ByteArray} {ml : Nat} {ret : Option FieldType} {h mc ms n0 : Nat} {Ret : zRT} {K : zKT} (C : zX y cc ml ret h mc ms n0 Ret K) {pc : Nat} {Lo : List (Option zV)} {st : List zV} {n : Nat} {σ : zS} {w : Nat} {a : Int} {L : Nat} {f : Int → Int} {i x : Int} (d : decode cc pc = .ok (.bastore, 1)) (ho : σ a = zP 1 L f) (hr : (0 < a ∧ a ≤ n) ∧ (0 ≤ i ∧ i < L) ∧ (L : Int) < 2147483648) (hx01 : x = 0 ∨ x = 1) (k : K (pc + 1) Lo st n (zsu σ a (zP 1 L (zu f i x))) w) : K pc Lo (zi x :: zi i :: zr a :: st) n σ w := by
  obtain ⟨p, l, e, R, s, m, args, below, meth, c, Q, g, ⟨hx, hb, hml, hown, hts, hK, hin⟩, hR, hsz, rfl, hrt⟩ := C
  intro ls H locs hn hl hP hS
  have hat := zW_at g σ hr.1
  rw [ho] at hat
  refine va_zast hx hb hK.1 hP.2.2 (zD g n σ) hS (a - 1).toNat 1 hat rfl (zI_in (L := L) hr.2.1 (by omega)) d (fun H1 locs1 hP1 _ hS1 => ?_)
  rw [show vp_nar .boolean (zI x) = zI x by rcases hx01 with rfl | rfl <;> rfl] at hP1
  rw [zI_cl (by omega), zI_upd f x hr.2.1.1] at hP1
  exact k ls H1 locs1 hn hl (hP.set hr.1 hP1) hS1
set_option maxHeartbeats 2000000 in
theorem x_castore {y : MethodName} {cc : ByteArray} {ml : Nat} {ret : Option FieldType} {h mc ms n0 : Nat} {Ret : zRT} {K : zKT} (C : zX y cc ml ret h mc ms n0 Ret K) {pc : Nat} {Lo : List (Option zV)} {st : List zV} {n : Nat} {σ : zS} {w : Nat} {a : Int} {L : Nat} {f : Int → Int} {i x : Int} (d : decode cc pc = .ok (.castore, 1)) (ho : σ a = zP 2 L f) (hr : (0 < a ∧ a ≤ n) ∧ (0 ≤ i ∧ i < L) ∧ (L : Int) < 2147483648) (hx16 : 0 ≤ x ∧ x < 65536) (k : K (pc + 1) Lo st n (zsu σ a (zP 2 L (zu f i x))) w) : K pc Lo (zi x :: zi i :: zr a :: st) n σ w := by
  obtain ⟨p, l, e, R, s, m, args, below, meth, c, Q, g, ⟨hx, hb, hml, hown, hts, hK, hin⟩, hR, hsz, rfl, hrt⟩ := C
  intro ls H locs hn hl hP hS
  have hat := zW_at g σ hr.1
  rw [ho] at hat
  refine va_cast hx hb hK.1 hP.2.2 (zD g n σ) hS (a - 1).toNat 2 hat rfl (zI_in (L := L) hr.2.1 (by omega)) d (fun H1 locs1 hP1 _ hS1 => ?_)
  rw [show vp_nar .char (zI x) = zI x by rw [vp_nar_char]; exact zI_c2 hx16] at hP1
  rw [zI_cl (by omega), zI_upd f x hr.2.1.1] at hP1
  exact k ls H1 locs1 hn hl (hP.set hr.1 hP1) hS1
set_option maxHeartbeats 2000000 in
theorem x_aaload3 {y : MethodName} {cc : ByteArray} {ml : Nat} {ret : Option FieldType} {h mc ms n0 : Nat} {Ret : zRT} {K : zKT} (C : zX y cc ml ret h mc ms n0 Ret K) {pc : Nat} {Lo : List (Option zV)} {st : List zV} {n : Nat} {σ : zS} {w : Nat} {a : Int} {L : Nat} {f : Int → Option Int} {i o : Int} (d : decode cc pc = .ok (.aaload, 1)) (ho : σ a = zQ 3 L f) (hr : (0 < a ∧ a ≤ n) ∧ (0 ≤ i ∧ i < L) ∧ (L : Int) < 2147483648) (hv : f i = some o) (k : K (pc + 1) Lo (zr o :: st) n σ w) : K pc Lo (zi i :: zr a :: st) n σ w := by
  obtain ⟨p, l, e, R, s, m, args, below, meth, c, Q, g, ⟨hx, hb, hml, hown, hts, hK, hin⟩, hR, hsz, rfl, hrt⟩ := C
  intro ls H locs hn hl hP hS
  have hat := zW_at g σ hr.1
  rw [ho] at hat
  refine va_aldq (C := "BlockTrees$Matrix") hx hb hK.1 hP.2.2 (a - 1).toNat 3 hat rfl (zI_in (L := L) hr.2.1 (by omega)) d ?_
  rw [zI_cl (by omega), Int.toNat_of_nonneg hr.2.1.1, show ((3 : Nat), (L, f)).2.2 i = some o from hv]
  exact k ls H locs hn hl hP hS
set_option maxHeartbeats 2000000 in
theorem x_aastore3 {y : MethodName} {cc : ByteArray} {ml : Nat} {ret : Option FieldType} {h mc ms n0 : Nat} {Ret : zRT} {K : zKT} (C : zX y cc ml ret h mc ms n0 Ret K) {pc : Nat} {Lo : List (Option zV)} {st : List zV} {n : Nat} {σ : zS} {w : Nat} {a : Int} {L : Nat} {f : Int → Option Int} {i o : Int} {vs : List zV} (d : decode cc pc = .ok (.aastore, 1)) (ho : σ a = zQ 3 L f) (hv : σ o = zO 1 vs) (hr : ((0 < a ∧ a ≤ n) ∧ (0 < o ∧ o ≤ n)) ∧ (0 ≤ i ∧ i < L) ∧ (L : Int) < 2147483648) (k : K (pc + 1) Lo st n (zsu σ a (zQ 3 L (zuq f i (some o)))) w) : K pc Lo (zr o :: zi i :: zr a :: st) n σ w := by
  obtain ⟨p, l, e, R, s, m, args, below, meth, c, Q, g, ⟨hx, hb, hml, hown, hts, hK, hin⟩, hR, hsz, rfl, hrt⟩ := C
  intro ls H locs hn hl hP hS
  have hat := zW_at g σ hr.1.1
  rw [ho] at hat
  have hav := zW_at g σ hr.1.2
  rw [hv] at hav
  refine va_astq (r := (RX1, TX1, 2)) hx hb hK.1 hP.2.2 (zD g n σ) hS (a - 1).toNat 3 (o - 1).toNat 1 hat rfl hav rfl (zI_in (L := L) hr.2.1 (by omega)) d (fun H1 locs1 hP1 _ hS1 => ?_)
  rw [zI_cl (by omega), zI_upq g f o hr.2.1.1] at hP1
  exact k ls H1 locs1 hn hl (hP.set hr.1.1 hP1) hS1
set_option maxHeartbeats 2000000 in
theorem x_aaload4 {y : MethodName} {cc : ByteArray} {ml : Nat} {ret : Option FieldType} {h mc ms n0 : Nat} {Ret : zRT} {K : zKT} (C : zX y cc ml ret h mc ms n0 Ret K) {pc : Nat} {Lo : List (Option zV)} {st : List zV} {n : Nat} {σ : zS} {w : Nat} {a : Int} {L : Nat} {f : Int → Option Int} {i o : Int} (d : decode cc pc = .ok (.aaload, 1)) (ho : σ a = zQ 4 L f) (hr : (0 < a ∧ a ≤ n) ∧ (0 ≤ i ∧ i < L) ∧ (L : Int) < 2147483648) (hv : f i = some o) (k : K (pc + 1) Lo (zr o :: st) n σ w) : K pc Lo (zi i :: zr a :: st) n σ w := by
  obtain ⟨p, l, e, R, s, m, args, below, meth, c, Q, g, ⟨hx, hb, hml, hown, hts, hK, hin⟩, hR, hsz, rfl, hrt⟩ := C
  intro ls H locs hn hl hP hS
  have hat := zW_at g σ hr.1
  rw [ho] at hat
  refine va_aldq (C := "BlockTrees$State") hx hb hK.1 hP.2.2 (a - 1).toNat 4 hat rfl (zI_in (L := L) hr.2.1 (by omega)) d ?_
  rw [zI_cl (by omega), Int.toNat_of_nonneg hr.2.1.1, show ((4 : Nat), (L, f)).2.2 i = some o from hv]
  exact k ls H locs hn hl hP hS
set_option maxHeartbeats 2000000 in
theorem x_aastore4 {y : MethodName} {cc : ByteArray} {ml : Nat} {ret : Option FieldType} {h mc ms n0 : Nat} {Ret : zRT} {K : zKT} (C : zX y cc ml ret h mc ms n0 Ret K) {pc : Nat} {Lo : List (Option zV)} {st : List zV} {n : Nat} {σ : zS} {w : Nat} {a : Int} {L : Nat} {f : Int → Option Int} {i o : Int} {vs : List zV} (d : decode cc pc = .ok (.aastore, 1)) (ho : σ a = zQ 4 L f) (hv : σ o = zO 4 vs) (hr : ((0 < a ∧ a ≤ n) ∧ (0 < o ∧ o ≤ n)) ∧ (0 ≤ i ∧ i < L) ∧ (L : Int) < 2147483648) (k : K (pc + 1) Lo st n (zsu σ a (zQ 4 L (zuq f i (some o)))) w) : K pc Lo (zr o :: zi i :: zr a :: st) n σ w := by
  obtain ⟨p, l, e, R, s, m, args, below, meth, c, Q, g, ⟨hx, hb, hml, hown, hts, hK, hin⟩, hR, hsz, rfl, hrt⟩ := C
  intro ls H locs hn hl hP hS
  have hat := zW_at g σ hr.1.1
  rw [ho] at hat
  have hav := zW_at g σ hr.1.2
  rw [hv] at hav
  refine va_astq (r := (RX4, TX4, 2)) hx hb hK.1 hP.2.2 (zD g n σ) hS (a - 1).toNat 4 (o - 1).toNat 4 hat rfl hav rfl (zI_in (L := L) hr.2.1 (by omega)) d (fun H1 locs1 hP1 _ hS1 => ?_)
  rw [zI_cl (by omega), zI_upq g f o hr.2.1.1] at hP1
  exact k ls H1 locs1 hn hl (hP.set hr.1.1 hP1) hS1
set_option maxHeartbeats 2000000 in
theorem x_aaload5 {y : MethodName} {cc : ByteArray} {ml : Nat} {ret : Option FieldType} {h mc ms n0 : Nat} {Ret : zRT} {K : zKT} (C : zX y cc ml ret h mc ms n0 Ret K) {pc : Nat} {Lo : List (Option zV)} {st : List zV} {n : Nat} {σ : zS} {w : Nat} {a : Int} {L : Nat} {f : Int → Option Int} {i o : Int} (d : decode cc pc = .ok (.aaload, 1)) (ho : σ a = zQ 5 L f) (hr : (0 < a ∧ a ≤ n) ∧ (0 ≤ i ∧ i < L) ∧ (L : Int) < 2147483648) (hv : f i = some o) (k : K (pc + 1) Lo (zr o :: st) n σ w) : K pc Lo (zi i :: zr a :: st) n σ w := by
  obtain ⟨p, l, e, R, s, m, args, below, meth, c, Q, g, ⟨hx, hb, hml, hown, hts, hK, hin⟩, hR, hsz, rfl, hrt⟩ := C
  intro ls H locs hn hl hP hS
  have hat := zW_at g σ hr.1
  rw [ho] at hat
  refine va_aldq (C := "BlockTrees$Slot") hx hb hK.1 hP.2.2 (a - 1).toNat 5 hat rfl (zI_in (L := L) hr.2.1 (by omega)) d ?_
  rw [zI_cl (by omega), Int.toNat_of_nonneg hr.2.1.1, show ((5 : Nat), (L, f)).2.2 i = some o from hv]
  exact k ls H locs hn hl hP hS
set_option maxHeartbeats 2000000 in
theorem x_aastore5 {y : MethodName} {cc : ByteArray} {ml : Nat} {ret : Option FieldType} {h mc ms n0 : Nat} {Ret : zRT} {K : zKT} (C : zX y cc ml ret h mc ms n0 Ret K) {pc : Nat} {Lo : List (Option zV)} {st : List zV} {n : Nat} {σ : zS} {w : Nat} {a : Int} {L : Nat} {f : Int → Option Int} {i o : Int} {vs : List zV} (d : decode cc pc = .ok (.aastore, 1)) (ho : σ a = zQ 5 L f) (hv : σ o = zO 3 vs) (hr : ((0 < a ∧ a ≤ n) ∧ (0 < o ∧ o ≤ n)) ∧ (0 ≤ i ∧ i < L) ∧ (L : Int) < 2147483648) (k : K (pc + 1) Lo st n (zsu σ a (zQ 5 L (zuq f i (some o)))) w) : K pc Lo (zr o :: zi i :: zr a :: st) n σ w := by
  obtain ⟨p, l, e, R, s, m, args, below, meth, c, Q, g, ⟨hx, hb, hml, hown, hts, hK, hin⟩, hR, hsz, rfl, hrt⟩ := C
  intro ls H locs hn hl hP hS
  have hat := zW_at g σ hr.1.1
  rw [ho] at hat
  have hav := zW_at g σ hr.1.2
  rw [hv] at hav
  refine va_astq (r := (RX3, TX3, 2)) hx hb hK.1 hP.2.2 (zD g n σ) hS (a - 1).toNat 5 (o - 1).toNat 3 hat rfl hav rfl (zI_in (L := L) hr.2.1 (by omega)) d (fun H1 locs1 hP1 _ hS1 => ?_)
  rw [zI_cl (by omega), zI_upq g f o hr.2.1.1] at hP1
  exact k ls H1 locs1 hn hl (hP.set hr.1.1 hP1) hS1
set_option maxHeartbeats 2000000 in
theorem x_alen0 {y : MethodName} {cc : ByteArray} {ml : Nat} {ret : Option FieldType} {h mc ms n0 : Nat} {Ret : zRT} {K : zKT} (C : zX y cc ml ret h mc ms n0 Ret K) {pc : Nat} {Lo : List (Option zV)} {st : List zV} {n : Nat} {σ : zS} {w : Nat} {a : Int} {L : Nat} {f : Int → Int} (d : decode cc pc = .ok (.arraylength, 1)) (ho : σ a = zP 0 L f) (hr : 0 < a ∧ a ≤ n) (k : K (pc + 1) Lo (zi (L : Int) :: st) n σ w) : K pc Lo (zr a :: st) n σ w := by
  obtain ⟨p, l, e, R, s, m, args, below, meth, c, Q, g, ⟨hx, hb, hml, hown, hts, hK, hin⟩, hR, hsz, rfl, hrt⟩ := C
  intro ls H locs hn hl hP hS
  have hat := zW_at g σ hr
  rw [ho] at hat
  exact va_alen hx hb hK.1 hP.2.2 (a - 1).toNat 0 hat rfl (v := zI (L : Int)) Int32.ofInt_eq_ofNat.symm d (k ls H locs hn hl hP hS)
set_option maxHeartbeats 2000000 in
theorem x_alen1 {y : MethodName} {cc : ByteArray} {ml : Nat} {ret : Option FieldType} {h mc ms n0 : Nat} {Ret : zRT} {K : zKT} (C : zX y cc ml ret h mc ms n0 Ret K) {pc : Nat} {Lo : List (Option zV)} {st : List zV} {n : Nat} {σ : zS} {w : Nat} {a : Int} {L : Nat} {f : Int → Int} (d : decode cc pc = .ok (.arraylength, 1)) (ho : σ a = zP 1 L f) (hr : 0 < a ∧ a ≤ n) (k : K (pc + 1) Lo (zi (L : Int) :: st) n σ w) : K pc Lo (zr a :: st) n σ w := by
  obtain ⟨p, l, e, R, s, m, args, below, meth, c, Q, g, ⟨hx, hb, hml, hown, hts, hK, hin⟩, hR, hsz, rfl, hrt⟩ := C
  intro ls H locs hn hl hP hS
  have hat := zW_at g σ hr
  rw [ho] at hat
  exact va_alen hx hb hK.1 hP.2.2 (a - 1).toNat 1 hat rfl (v := zI (L : Int)) Int32.ofInt_eq_ofNat.symm d (k ls H locs hn hl hP hS)
set_option maxHeartbeats 2000000 in
theorem x_alen2 {y : MethodName} {cc : ByteArray} {ml : Nat} {ret : Option FieldType} {h mc ms n0 : Nat} {Ret : zRT} {K : zKT} (C : zX y cc ml ret h mc ms n0 Ret K) {pc : Nat} {Lo : List (Option zV)} {st : List zV} {n : Nat} {σ : zS} {w : Nat} {a : Int} {L : Nat} {f : Int → Int} (d : decode cc pc = .ok (.arraylength, 1)) (ho : σ a = zP 2 L f) (hr : 0 < a ∧ a ≤ n) (k : K (pc + 1) Lo (zi (L : Int) :: st) n σ w) : K pc Lo (zr a :: st) n σ w := by
  obtain ⟨p, l, e, R, s, m, args, below, meth, c, Q, g, ⟨hx, hb, hml, hown, hts, hK, hin⟩, hR, hsz, rfl, hrt⟩ := C
  intro ls H locs hn hl hP hS
  have hat := zW_at g σ hr
  rw [ho] at hat
  exact va_alen hx hb hK.1 hP.2.2 (a - 1).toNat 2 hat rfl (v := zI (L : Int)) Int32.ofInt_eq_ofNat.symm d (k ls H locs hn hl hP hS)
set_option maxHeartbeats 2000000 in
theorem x_acopy {y : MethodName} {cc : ByteArray} {ml : Nat} {ret : Option FieldType} {h mc ms n0 : Nat} {Ret : zRT} {K : zKT} (C : zX y cc ml ret h mc ms n0 Ret K) {pc : Nat} {Lo : List (Option zV)} {st : List zV} {n : Nat} {σ : zS} {w : Nat} {idx : Nat} {a0 a : Int} {L0 L : Nat} {f f2 : Int → Int} {sp dp q : Int} (d : decode cc pc = .ok (.invokestatic idx, 3)) (hw : Cond.methodLink y.cls idx arraycopyName ∈ zGW ∧ Cond.native arraycopyName ∈ zGW ∧ Cond.static arraycopyName ∈ zGW ∧ Cond.initialized "java/lang/System" ∈ zGW) (h1 : 1 ≤ h) (ho : σ a0 = zA L0 f) (ho2 : σ a = zA L f2) (hr : ((0 < a0 ∧ a0 ≤ n) ∧ 0 < a ∧ a ≤ n) ∧ (0 ≤ sp ∧ 0 ≤ q ∧ sp + q ≤ L0 ∧ (L0 : Int) < 2147483648) ∧ 0 ≤ dp ∧ dp + q ≤ L ∧ (L : Int) < 2147483648) (hc : zcat st ≤ 8) (k : K (pc + 3) Lo st n (zsu σ a (zA L (fun j => if dp ≤ j ∧ j < dp + q then f (sp + (j - dp)) else f2 j))) w) : K pc Lo (zi q :: zi dp :: zr a :: zi sp :: zr a0 :: st) n σ w := by
  obtain ⟨p, l, e, R, s, m, args, below, meth, c, Q, g, ⟨hx, hb, hml, hown, hts, hK, hin⟩, hR, hsz, rfl, hrt⟩ := C
  intro ls H locs hn hl hP hS
  have hat0 := zW_at g σ hr.1.1
  rw [ho] at hat0
  have hat := zW_at g σ hr.1.2
  rw [ho2] at hat
  refine va_copyi hx hb (by rw [hml]; exact hl.1.symm) hown (hts _ hw.1) (hts _ hw.2.1) (hts _ hw.2.2.1) (hts _ hw.2.2.2) hK.1 hP.2.2 (zD g n σ) hS (a0 - 1).toNat (a - 1).toNat 0 0 hat0 hat rfl rfl rfl ?_ ?_ ?_ ?_ ?_ (fun i _ => rfl) ?_ ?_ d (fun H1 locs1 hP1 _ hS1 => ?_)
  · rw [← zI_0, zI_lt (by omega)]; omega
  · rw [← zI_0, zI_lt (by omega)]; omega
  · rw [← zI_0, zI_lt (by omega)]; omega
  · rw [zI_cl (by omega), zI_cl (by omega)]; show sp.toNat + q.toNat ≤ L0; omega
  · rw [zI_cl (by omega), zI_cl (by omega)]; show dp.toNat + q.toNat ≤ L; omega
  · omega
  · have e := zcat_eq g st
    have e2 : nativeFrameWords "java/lang/System" "arraycopy" 5 ≤ 30 := by decide
    omega
  · rw [zI_cl (by omega), zI_cl (by omega), zI_cl (by omega)] at hP1
    refine k ls H1 locs1 hn hl (hP.set hr.1.2 ?_) hS1
    have e : va_cpy (fun j : Nat => zI (f (j : Int))) (fun j : Nat => zI (f2 (j : Int))) sp.toNat dp.toNat q.toNat = fun j : Nat => zI (if dp ≤ (j : Int) ∧ (j : Int) < dp + q then f (sp + ((j : Int) - dp)) else f2 (j : Int)) := by
      funext j
      unfold va_cpy
      by_cases e1 : dp.toNat ≤ j ∧ j < dp.toNat + q.toNat
      · rw [if_pos e1, if_pos (by omega)]
        have e3 : ((sp.toNat + (j - dp.toNat) : Nat) : Int) = sp + ((j : Int) - dp) := by omega
        show zI (f ((sp.toNat + (j - dp.toNat) : Nat) : Int)) = _
        rw [e3]
      · rw [if_neg e1, if_neg (by omega)]
    rw [e] at hP1
    exact hP1
end
section
set_option maxHeartbeats 2000000 in
theorem x_newa {y : MethodName} {cc : ByteArray} {ml : Nat} {ret : Option FieldType} {h mc ms n0 : Nat} {Ret : zRT} {K : zKT} (C : zX y cc ml ret h mc ms n0 Ret K) {pc : Nat} {Lo : List (Option zV)} {st : List zV} {n : Nat} {σ : zS} {w : Nat} {at0 : ArrayType} {t : Nat} {ty : FieldType} {z : Int} {L : Nat} (d : decode cc pc = .ok (.newarray at0, 2)) (hty : newarray.typeOf at0 = ty) (hdef : defaultValue ty = .int 0) (ht : ∀ g : zG, (zty g)[t]? = some (g.2.2 t, ty)) (hprim : ∀ (U : State) (cA : ClassId), va_RA U cA ty → U.vm.findClass ("[" ++ ty.toString) = some cA) (hw : Cond.arrayClass ty ∈ zGW) (hq : z = L ∧ L * componentBytes ty ≤ 536870912 ∧ (L : Int) < 2147483648) (hf : n + 1 ≤ n0 + mc ∧ w + L ≤ ms) (k : K (pc + 2) Lo (zr ((n : Int) + 1) :: st) (n + 1) (zsu σ ((n : Int) + 1) (zP t L (fun _ => 0))) (w + L)) : K pc Lo (zi z :: st) n σ w := by
  obtain ⟨p, l, e, R, s, m, args, below, meth, c, Q, g, ⟨hx, hb, hml, hown, hts, hK, hin⟩, hR, hsz, rfl, hrt⟩ := C
  intro ls H locs hn hl hP hS
  refine va_newa (a0 := (L, .inl (fun _ => zI 0))) (N' := L) hx hb (by rw [hty]; exact hts _ hw) hty hK.1 hP.2.2 (zD g n σ) hS (fun q hq => by show g.1.2 < q; omega) (fun cA => by rw [vp_cell_i, hdef]; rfl) ?_ ?_ hq.2.1 (by omega) (by omega) d (fun q cA H1 hK1 hP1 hD1 hS1 => ?_)
  · rw [← zI_0, zI_lt (by omega)]; omega
  · rw [zI_cl (by omega)] <;> omega
  have hcA : cA = g.2.2 t := by
    have h1 := hprim _ _ (hK.1.2 t _ (ht g)).2
    have h2 := hprim _ _ (hK1.2 6 (cA, ty) rfl).2
    exact Option.some.inj (h2.symm.trans h1)
  subst hcA
  intro T hT X
  have hz := X.heapSize
  rw [hT, hsz] at hz
  have hq0 : q = g.1.2 + (n + 1) := zq_eq hD1 hP1 (by omega)
  subst hq0
  rw [show ((g.1.2 + (n + 1), Sum.inl (g.2.2 t, (L, Sum.inl (fun _ : Nat => zI 0)))) : Nat × va_E) = (g.1.2 + (n + 1), zc g (zP t L (fun _ => 0))) from rfl, zW_push] at hP1
  refine (W.cs (cells' := n + 1 - n0) (slots' := w + L) (by omega) rfl ?_) T hT X
  have e9 : zv g (zr ((n : Int) + 1)) = .ref (g.1.2 + (n + 1)) := by
    show va_rf (some (zad g _)) = _
    rw [zad_pos g (by omega)]
    rfl
  rw [← e9]
  exact k ls H1 locs ⟨by omega, by omega, by omega⟩ hl ⟨by have := (hP1 n _ (by rw [zW_get, if_pos (by omega)])).lt; dsimp only at this; omega, hP.2.1, hP1⟩ hS1
set_option maxHeartbeats 2000000 in
theorem x_newq3 {y : MethodName} {cc : ByteArray} {ml : Nat} {ret : Option FieldType} {h mc ms n0 : Nat} {Ret : zRT} {K : zKT} (C : zX y cc ml ret h mc ms n0 Ret K) {pc : Nat} {Lo : List (Option zV)} {st : List zV} {n : Nat} {σ : zS} {w : Nat} {idx : Nat} {z : Int} {L : Nat} (d : decode cc pc = .ok (.anewarray idx, 3)) (hw : Cond.classLink y.cls idx "BlockTrees$Matrix" ∈ zGW) (hq : z = L ∧ L * 4 ≤ 536870912 ∧ (L : Int) < 2147483648) (hf : n + 1 ≤ n0 + mc ∧ w + L ≤ ms) (k : K (pc + 3) Lo (zr ((n : Int) + 1) :: st) (n + 1) (zsu σ ((n : Int) + 1) (zQ 3 L (fun _ => none))) (w + L)) : K pc Lo (zi z :: st) n σ w := by
  obtain ⟨p, l, e, R, s, m, args, below, meth, c, Q, g, ⟨hx, hb, hml, hown, hts, hK, hin⟩, hR, hsz, rfl, hrt⟩ := C
  intro ls H locs hn hl hP hS
  refine va_newq (C := "BlockTrees$Matrix") (N' := L) hx hb hown (hts _ hw) hK.2.2.1 hK.1 hP.2.2 (zD g n σ) hS (fun q hq => by show g.1.2 < q; omega) ?_ ?_ hq.2.1 (by omega) (by omega) d (fun q cA H1 hK1 hP1 hD1 hS1 => ?_)
  · rw [← zI_0, zI_lt (by omega)]; omega
  · rw [zI_cl (by omega)] <;> omega
  have hcA : cA = g.2.2 3 := by
    obtain ⟨_, _, _, _, _, h1⟩ := (hK.1.2 3 _ rfl).2
    obtain ⟨_, _, _, _, _, h2⟩ := (hK1.2 6 (cA, .object "BlockTrees$Matrix") rfl).2
    exact Option.some.inj (h2.symm.trans h1)
  subst hcA
  intro T hT X
  have hz := X.heapSize
  rw [hT, hsz] at hz
  have hq0 : q = g.1.2 + (n + 1) := zq_eq hD1 hP1 (by omega)
  subst hq0
  rw [show ((g.1.2 + (n + 1), Sum.inl (g.2.2 3, (L, Sum.inr (Sum.inr (Sum.inr (Sum.inr (fun _ : Nat => none))))))) : Nat × va_E) = (g.1.2 + (n + 1), zc g (zQ 3 L (fun _ => none))) from rfl, zW_push] at hP1
  refine (W.cs (cells' := n + 1 - n0) (slots' := w + L) (by omega) rfl ?_) T hT X
  have e9 : zv g (zr ((n : Int) + 1)) = .ref (g.1.2 + (n + 1)) := by
    show va_rf (some (zad g _)) = _
    rw [zad_pos g (by omega)]
    rfl
  rw [← e9]
  exact k ls H1 locs ⟨by omega, by omega, by omega⟩ hl ⟨by have := (hP1 n _ (by rw [zW_get, if_pos (by omega)])).lt; dsimp only at this; omega, hP.2.1, hP1⟩ hS1
set_option maxHeartbeats 2000000 in
theorem x_newq4 {y : MethodName} {cc : ByteArray} {ml : Nat} {ret : Option FieldType} {h mc ms n0 : Nat} {Ret : zRT} {K : zKT} (C : zX y cc ml ret h mc ms n0 Ret K) {pc : Nat} {Lo : List (Option zV)} {st : List zV} {n : Nat} {σ : zS} {w : Nat} {idx : Nat} {z : Int} {L : Nat} (d : decode cc pc = .ok (.anewarray idx, 3)) (hw : Cond.classLink y.cls idx "BlockTrees$State" ∈ zGW) (hq : z = L ∧ L * 4 ≤ 536870912 ∧ (L : Int) < 2147483648) (hf : n + 1 ≤ n0 + mc ∧ w + L ≤ ms) (k : K (pc + 3) Lo (zr ((n : Int) + 1) :: st) (n + 1) (zsu σ ((n : Int) + 1) (zQ 4 L (fun _ => none))) (w + L)) : K pc Lo (zi z :: st) n σ w := by
  obtain ⟨p, l, e, R, s, m, args, below, meth, c, Q, g, ⟨hx, hb, hml, hown, hts, hK, hin⟩, hR, hsz, rfl, hrt⟩ := C
  intro ls H locs hn hl hP hS
  refine va_newq (C := "BlockTrees$State") (N' := L) hx hb hown (hts _ hw) hK.2.2.2.1 hK.1 hP.2.2 (zD g n σ) hS (fun q hq => by show g.1.2 < q; omega) ?_ ?_ hq.2.1 (by omega) (by omega) d (fun q cA H1 hK1 hP1 hD1 hS1 => ?_)
  · rw [← zI_0, zI_lt (by omega)]; omega
  · rw [zI_cl (by omega)] <;> omega
  have hcA : cA = g.2.2 4 := by
    obtain ⟨_, _, _, _, _, h1⟩ := (hK.1.2 4 _ rfl).2
    obtain ⟨_, _, _, _, _, h2⟩ := (hK1.2 6 (cA, .object "BlockTrees$State") rfl).2
    exact Option.some.inj (h2.symm.trans h1)
  subst hcA
  intro T hT X
  have hz := X.heapSize
  rw [hT, hsz] at hz
  have hq0 : q = g.1.2 + (n + 1) := zq_eq hD1 hP1 (by omega)
  subst hq0
  rw [show ((g.1.2 + (n + 1), Sum.inl (g.2.2 4, (L, Sum.inr (Sum.inr (Sum.inr (Sum.inr (fun _ : Nat => none))))))) : Nat × va_E) = (g.1.2 + (n + 1), zc g (zQ 4 L (fun _ => none))) from rfl, zW_push] at hP1
  refine (W.cs (cells' := n + 1 - n0) (slots' := w + L) (by omega) rfl ?_) T hT X
  have e9 : zv g (zr ((n : Int) + 1)) = .ref (g.1.2 + (n + 1)) := by
    show va_rf (some (zad g _)) = _
    rw [zad_pos g (by omega)]
    rfl
  rw [← e9]
  exact k ls H1 locs ⟨by omega, by omega, by omega⟩ hl ⟨by have := (hP1 n _ (by rw [zW_get, if_pos (by omega)])).lt; dsimp only at this; omega, hP.2.1, hP1⟩ hS1
set_option maxHeartbeats 2000000 in
theorem x_newq5 {y : MethodName} {cc : ByteArray} {ml : Nat} {ret : Option FieldType} {h mc ms n0 : Nat} {Ret : zRT} {K : zKT} (C : zX y cc ml ret h mc ms n0 Ret K) {pc : Nat} {Lo : List (Option zV)} {st : List zV} {n : Nat} {σ : zS} {w : Nat} {idx : Nat} {z : Int} {L : Nat} (d : decode cc pc = .ok (.anewarray idx, 3)) (hw : Cond.classLink y.cls idx "BlockTrees$Slot" ∈ zGW) (hq : z = L ∧ L * 4 ≤ 536870912 ∧ (L : Int) < 2147483648) (hf : n + 1 ≤ n0 + mc ∧ w + L ≤ ms) (k : K (pc + 3) Lo (zr ((n : Int) + 1) :: st) (n + 1) (zsu σ ((n : Int) + 1) (zQ 5 L (fun _ => none))) (w + L)) : K pc Lo (zi z :: st) n σ w := by
  obtain ⟨p, l, e, R, s, m, args, below, meth, c, Q, g, ⟨hx, hb, hml, hown, hts, hK, hin⟩, hR, hsz, rfl, hrt⟩ := C
  intro ls H locs hn hl hP hS
  refine va_newq (C := "BlockTrees$Slot") (N' := L) hx hb hown (hts _ hw) hK.2.2.2.2 hK.1 hP.2.2 (zD g n σ) hS (fun q hq => by show g.1.2 < q; omega) ?_ ?_ hq.2.1 (by omega) (by omega) d (fun q cA H1 hK1 hP1 hD1 hS1 => ?_)
  · rw [← zI_0, zI_lt (by omega)]; omega
  · rw [zI_cl (by omega)] <;> omega
  have hcA : cA = g.2.2 5 := by
    obtain ⟨_, _, _, _, _, h1⟩ := (hK.1.2 5 _ rfl).2
    obtain ⟨_, _, _, _, _, h2⟩ := (hK1.2 6 (cA, .object "BlockTrees$Slot") rfl).2
    exact Option.some.inj (h2.symm.trans h1)
  subst hcA
  intro T hT X
  have hz := X.heapSize
  rw [hT, hsz] at hz
  have hq0 : q = g.1.2 + (n + 1) := zq_eq hD1 hP1 (by omega)
  subst hq0
  rw [show ((g.1.2 + (n + 1), Sum.inl (g.2.2 5, (L, Sum.inr (Sum.inr (Sum.inr (Sum.inr (fun _ : Nat => none))))))) : Nat × va_E) = (g.1.2 + (n + 1), zc g (zQ 5 L (fun _ => none))) from rfl, zW_push] at hP1
  refine (W.cs (cells' := n + 1 - n0) (slots' := w + L) (by omega) rfl ?_) T hT X
  have e9 : zv g (zr ((n : Int) + 1)) = .ref (g.1.2 + (n + 1)) := by
    show va_rf (some (zad g _)) = _
    rw [zad_pos g (by omega)]
    rfl
  rw [← e9]
  exact k ls H1 locs ⟨by omega, by omega, by omega⟩ hl ⟨by have := (hP1 n _ (by rw [zW_get, if_pos (by omega)])).lt; dsimp only at this; omega, hP.2.1, hP1⟩ hS1
set_option maxHeartbeats 2000000 in
theorem x_new {y : MethodName} {cc : ByteArray} {ml : Nat} {ret : Option FieldType} {h mc ms n0 : Nat} {Ret : zRT} {K : zKT} (C : zX y cc ml ret h mc ms n0 Ret K) {pc : Nat} {Lo : List (Option zV)} {st : List zV} {n : Nat} {σ : zS} {w : Nat} {idx ci N : Nat} {CC : String} {T : u_T} {fs : List zV} (d : decode cc pc = .ok (.new idx, 3)) (hc : vwCl[ci]? = some (CC, T, N)) (hw : Cond.classLink y.cls idx CC ∈ zGW ∧ Cond.instantiable CC N ∈ zGW ∧ Cond.initialized CC ∈ zGW ∧ ∀ w ∈ u_ws CC T N, w ∈ zGW) (ty : Nat → FieldType) (hty : ∀ k, k < N → parseFieldDescriptor (T k).2.2.1 = some (ty k)) (hfs : ∀ (g : zG) (j : Nat), j < N → defaultValue (ty j) = vp_V (fs.map (zv g)) j) (hf : n + 1 ≤ n0 + mc ∧ w + N ≤ ms) (k : K (pc + 3) Lo (zr ((n : Int) + 1) :: st) (n + 1) (zsu σ ((n : Int) + 1) (zO ci fs)) (w + N)) : K pc Lo st n σ w := by
  obtain ⟨p, l, e, R, s, m, args, below, meth, c, Q, g, ⟨hx, hb, hml, hown, hts, hK, hin⟩, hR, hsz, rfl, hrt⟩ := C
  intro ls H locs hn hl hP hS
  refine va_new hx hb hts hw.2.2.2 ty hty hown (hts _ hw.1) (hts _ hw.2.1) (hts _ hw.2.2.1) hK.1 hP.2.2 (zD g n σ) hS (fun q hq => by show g.1.2 < q; omega) hc (hfs g) (by omega) (by omega) d (fun q H1 hP1 hD1 hS1 => ?_)
  intro T hT X
  have hz := X.heapSize
  rw [hT, hsz] at hz
  have hq0 : q = g.1.2 + (n + 1) := zq_eq hD1 hP1 (by omega)
  subst hq0
  rw [show ((g.1.2 + (n + 1), Sum.inr (ci, fs.map (zv g))) : Nat × va_E) = (g.1.2 + (n + 1), zc g (zO ci fs)) from rfl, zW_push] at hP1
  refine (W.cs (cells' := n + 1 - n0) (slots' := w + N) (by omega) rfl ?_) T hT X
  have e9 : zv g (zr ((n : Int) + 1)) = .ref (g.1.2 + (n + 1)) := by
    show va_rf (some (zad g _)) = _
    rw [zad_pos g (by omega)]
    rfl
  rw [← e9]
  exact k ls H1 locs ⟨by omega, by omega, by omega⟩ hl ⟨by have := (hP1 n _ (by rw [zW_get, if_pos (by omega)])).lt; dsimp only at this; omega, hP.2.1, hP1⟩ hS1
set_option maxHeartbeats 2000000 in
theorem x_objInit {y : MethodName} {cc : ByteArray} {ml : Nat} {ret : Option FieldType} {h mc ms n0 : Nat} {Ret : zRT} {K : zKT} (C : zX y cc ml ret h mc ms n0 Ret K) {pc : Nat} {Lo : List (Option zV)} {st : List zV} {n : Nat} {σ : zS} {w : Nat} {idx : Nat} {o : Int} (d : decode cc pc = .ok (.invokespecial idx, 3)) (hw : Cond.methodLink y.cls idx objectInit ∈ zGW ∧ Cond.instanceMethod objectInit ∈ zGW ∧ Cond.code objectInit ⟨#[0xb1]⟩ 1 none ∈ zGW) (h1 : 1 ≤ h) (hc : zcat st ≤ 8) (k : K (pc + 3) Lo st n σ w) : K pc Lo (zr o :: st) n σ w := by
  obtain ⟨p, l, e, R, s, m, args, below, meth, c, Q, g, ⟨hx, hb, hml, hown, hts, hK, hin⟩, hR, hsz, rfl, hrt⟩ := C
  intro ls H locs hn hl hP hS
  refine W.objInit hx hb hown (hts _ hw.1) (hts _ hw.2.1) (hts _ hw.2.2) rfl (by rw [hml]; exact hl.1) rfl d (by omega) ?_ (k ls H locs hn hl hP hS)
  have e := zcat_eq g st
  show 2 * 0 + _ + 12 ≤ _
  omega
set_option maxHeartbeats 2000000 in
theorem x_callS {y : MethodName} {cc : ByteArray} {ml : Nat} {ret : Option FieldType} {h mc ms n0 : Nat} {Ret : zRT} {K : zKT} (C : zX y cc ml ret h mc ms n0 Ret K) {pc : Nat} {Lo : List (Option zV)} {st : List zV} {n : Nat} {σ : zS} {w : Nat} {y' : MethodName} {cc' : ByteArray} {ml' : Nat} {ret' : Option FieldType} {h' mc' ms' na idx n' : Nat} {as rest : List zV} {r : Option zV} {σ' : zS} (d : decode cc pc = .ok (.invokestatic idx, 3)) (hM : zCt h' mc' ms' y' cc' ml' ret' as n σ r n' σ') (ok : zOk y' cc' ml' ret' na) (lk : zLs y.cls idx y') (hh : h' < h ∧ as.length = na ∧ n' = n + mc' ∧ zcat rest ≤ 8) (hst : as.reverse ++ rest = st) (hf : mc' = 0 ∧ ms' = 0 ∨ n + mc' ≤ n0 + mc ∧ w + ms' ≤ ms) (k : K (pc + 3) Lo (r.toList ++ rest) n' σ' (w + ms')) : K pc Lo st n σ w := by
  obtain ⟨p, l, e, R, s, m, args, below, meth, c, Q, g, ⟨hx, hb, hml, hown, hts, hK, hin⟩, hR, hsz, rfl, hrt⟩ := C
  intro ls H locs hn hl hP hS
  intro T hT X
  have hz : H.size = g.1.2 + 1 + n := by
    have h1 := X.heapSize
    rw [hT] at h1
    have h2 := hP.1
    omega
  subst hst
  obtain ⟨⟨ok1, ok2⟩, ok3, ok4, ok5, ok6⟩ := ok
  obtain ⟨hh1, hh2, hh3, hh4⟩ := hh
  have hws : ∀ w ∈ (Cond.code y' cc' ml' ret' :: zGW), ∀ (a' : Array Value) (U : State), s.WarmedH U.vm → w.before a' U = true := pay_in hts (zGoodIn ok5)
  have hrm : (zRm h' mc' ms').frames + 1 ≤ R.frames ∧ 8 + (ml' + 11) + (zRm h' mc' ms').locals ≤ R.locals := by
    show h' + 1 ≤ _ ∧ 8 + (ml' + 11) + 64 * h' ≤ _
    omega
  have hlen : ∀ sig, parseMethodDescriptor y'.desc = some sig → na = sig.parameters.length := fun sig q => by
    rw [q] at ok3
    exact (Option.some.inj ok3).symm
  have hfb : FrameBlind (zPre g n σ as) := fun a U fr mk q => ⟨q.1, q.2.1, q.2.2.1, zK.calling fr mk a q.2.2.2⟩
  have hpc : ∀ U : State, U.heap = H → s.WarmedH U.vm → zPre g n σ as (as.map (zv g)).toArray U := fun U hU hW => ⟨rfl, by rw [hU]; exact hz, by rw [hU]; exact hP, zK.warm hW hK⟩
  have hcat : 2 * (0 : Nat) + ((rest.map (zv g)).map fun v => v.category).sum ≤ 8 := by
    rw [zcat_eq]
    omega
  have hstk : ((as.reverse ++ rest).map (zv g)) = (as.map (zv g)).reverse ++ rest.map (zv g) := by
    simp [List.map_append, List.map_reverse]
  have hfix : CallFix p m c cc ml s args zGW y.cls := ⟨hx, hb, hml, hown, hts⟩
  have hrun : va_Run p l e R s m args below meth c H locs (n - n0) w mc' ms' (F0 m pc ls ((as.reverse ++ rest).map (zv g))) (rest.map (zv g)) (zPost g r n' σ' (as.map (zv g)).toArray) (zF g) := (va_runS (As := as.map (zv g)) (rest := rest.map (zv g)) hfix (hM l g) ⟨⟨rfl, rfl, hrm.1, hrm.2, hws, List.mem_cons_self, hts _ ok5, hts _ ok6, ⟨ok1, ok2⟩, hlen, hts _ lk.1⟩, hts _ lk.2⟩ ⟨hfb, hpc⟩ rfl (by rw [List.length_map]; exact hh2) hl.1 hstk hcat d ⟨by omega, by omega⟩)
  exact zrun hrun hS (fun H1 locs1 h1 h2 => by
    have hk := k ls H1 locs1 ⟨by omega, by omega, by omega⟩ hl h1 h2
    rw [show n' - n0 = n - n0 + mc' by omega, show ((r.toList ++ rest).map (zv g)) = (r.map (zv g)).toList ++ rest.map (zv g) by cases r <;> simp] at hk
    exact hk) T hT X
set_option maxHeartbeats 2000000 in
theorem x_callSN {y : MethodName} {cc : ByteArray} {ml : Nat} {ret : Option FieldType} {h mc ms n0 : Nat} {Ret : zRT} {K : zKT} (C : zX y cc ml ret h mc ms n0 Ret K) {pc : Nat} {Lo : List (Option zV)} {st : List zV} {n : Nat} {σ : zS} {w : Nat} {y' : MethodName} {cc' : ByteArray} {ml' : Nat} {ret' : Option FieldType} {h' mc' ms' na idx n' : Nat} {as rest : List zV} {r : Option zV} {σ' : zS} (d : decode cc pc = .ok (.invokestatic idx, 3)) (hM : zCt h' mc' ms' y' cc' ml' ret' as n σ r n' σ') (ok : zOk y' cc' ml' ret' na) (lk : zNs y.cls idx y') (hh : h' < h ∧ as.length = na ∧ n' = n + mc' ∧ zcat rest ≤ 8) (hst : as.reverse ++ rest = st) (hf : mc' = 0 ∧ ms' = 0 ∨ n + mc' ≤ n0 + mc ∧ w + ms' ≤ ms) (k : K (pc + 3) Lo (r.toList ++ rest) n' σ' (w + ms')) : K pc Lo st n σ w := by
  obtain ⟨p, l, e, R, s, m, args, below, meth, c, Q, g, ⟨hx, hb, hml, hown, hts, hK, hin⟩, hR, hsz, rfl, hrt⟩ := C
  intro ls H locs hn hl hP hS
  intro T hT X
  have hz : H.size = g.1.2 + 1 + n := by
    have h1 := X.heapSize
    rw [hT] at h1
    have h2 := hP.1
    omega
  subst hst
  obtain ⟨⟨ok1, ok2⟩, ok3, ok4, ok5, ok6⟩ := ok
  obtain ⟨hh1, hh2, hh3, hh4⟩ := hh
  have hws : ∀ w ∈ (Cond.code y' cc' ml' ret' :: zGW), ∀ (a' : Array Value) (U : State), s.WarmedH U.vm → w.before a' U = true := pay_in hts (zGoodIn ok5)
  have hrm : (zRm h' mc' ms').frames + 1 ≤ R.frames ∧ 8 + (ml' + 11) + (zRm h' mc' ms').locals ≤ R.locals := by
    show h' + 1 ≤ _ ∧ 8 + (ml' + 11) + 64 * h' ≤ _
    omega
  have hlen : ∀ sig, parseMethodDescriptor y'.desc = some sig → na = sig.parameters.length := fun sig q => by
    rw [q] at ok3
    exact (Option.some.inj ok3).symm
  have hfb : FrameBlind (zPre g n σ as) := fun a U fr mk q => ⟨q.1, q.2.1, q.2.2.1, zK.calling fr mk a q.2.2.2⟩
  have hpc : ∀ U : State, U.heap = H → s.WarmedH U.vm → zPre g n σ as (as.map (zv g)).toArray U := fun U hU hW => ⟨rfl, by rw [hU]; exact hz, by rw [hU]; exact hP, zK.warm hW hK⟩
  have hcat : 2 * (0 : Nat) + ((rest.map (zv g)).map fun v => v.category).sum ≤ 8 := by
    rw [zcat_eq]
    omega
  have hstk : ((as.reverse ++ rest).map (zv g)) = (as.map (zv g)).reverse ++ rest.map (zv g) := by
    simp [List.map_append, List.map_reverse]
  have hfix : CallFix p m c cc ml s args zGW y.cls := ⟨hx, hb, hml, hown, hts⟩
  have hrun : va_Run p l e R s m args below meth c H locs (n - n0) w mc' ms' (F0 m pc ls ((as.reverse ++ rest).map (zv g))) (rest.map (zv g)) (zPost g r n' σ' (as.map (zv g)).toArray) (zF g) := (va_runSN (As := as.map (zv g)) (rest := rest.map (zv g)) hfix (hM l g) ⟨⟨⟨rfl, rfl, hrm.1, hrm.2, hws, List.mem_cons_self⟩, hts _ ok5, hts _ ok6, ⟨ok1, ok2⟩, hlen, va_Nw.use rfl (hK.2.1 _ lk.1)⟩, hts _ lk.2, trivial⟩ ⟨hfb, hpc⟩ rfl (by rw [List.length_map]; exact hh2) hl.1 hstk hcat d ⟨by omega, by omega⟩)
  exact zrun hrun hS (fun H1 locs1 h1 h2 => by
    have hk := k ls H1 locs1 ⟨by omega, by omega, by omega⟩ hl h1 h2
    rw [show n' - n0 = n - n0 + mc' by omega, show ((r.toList ++ rest).map (zv g)) = (r.map (zv g)).toList ++ rest.map (zv g) by cases r <;> simp] at hk
    exact hk) T hT X
set_option maxHeartbeats 2000000 in
theorem x_callV {y : MethodName} {cc : ByteArray} {ml : Nat} {ret : Option FieldType} {h mc ms n0 : Nat} {Ret : zRT} {K : zKT} (C : zX y cc ml ret h mc ms n0 Ret K) {pc : Nat} {Lo : List (Option zV)} {st : List zV} {n : Nat} {σ : zS} {w : Nat} {y' : MethodName} {cc' : ByteArray} {ml' : Nat} {ret' : Option FieldType} {h' mc' ms' na idx n' : Nat} {as rest : List zV} {r : Option zV} {σ' : zS} {b : Int} {ci : Nat} {vs : List zV} {C0 : String} {T0 : u_T} {N0 : Nat} (d : decode cc pc = .ok (.invokevirtual idx, 3)) (hM : zCt h' mc' ms' y' cc' ml' ret' (zr b :: as) n σ r n' σ') (ok : zOk y' cc' ml' ret' na) (lk : zLv y.cls idx y') (ho : (σ b = zO ci vs ∧ vwCl[ci]? = some (C0, T0, N0) ∧ C0 = y'.cls) ∧ 0 < b ∧ b ≤ n) (hh : h' < h ∧ as.length = na ∧ n' = n + mc' ∧ zcat rest ≤ 8) (hst : as.reverse ++ zr b :: rest = st) (hf : mc' = 0 ∧ ms' = 0 ∨ n + mc' ≤ n0 + mc ∧ w + ms' ≤ ms) (k : K (pc + 3) Lo (r.toList ++ rest) n' σ' (w + ms')) : K pc Lo st n σ w := by
  obtain ⟨p, l, e, R, s, m, args, below, meth, c, Q, g, ⟨hx, hb, hml, hown, hts, hK, hin⟩, hR, hsz, rfl, hrt⟩ := C
  intro ls H locs hn hl hP hS
  intro T hT X
  have hz : H.size = g.1.2 + 1 + n := by
    have h1 := X.heapSize
    rw [hT] at h1
    have h2 := hP.1
    omega
  subst hst
  obtain ⟨⟨ok1, ok2⟩, ok3, ok4, ok5, ok6⟩ := ok
  obtain ⟨hh1, hh2, hh3, hh4⟩ := hh
  have hws : ∀ w ∈ (Cond.code y' cc' ml' ret' :: zGW), ∀ (a' : Array Value) (U : State), s.WarmedH U.vm → w.before a' U = true := pay_in hts (zGoodIn ok5)
  have hrm : (zRm h' mc' ms').frames + 1 ≤ R.frames ∧ 8 + (ml' + 11) + (zRm h' mc' ms').locals ≤ R.locals := by
    show h' + 1 ≤ _ ∧ 8 + (ml' + 11) + 64 * h' ≤ _
    omega
  have hlen : ∀ sig, parseMethodDescriptor y'.desc = some sig → na = sig.parameters.length := fun sig q => by
    rw [q] at ok3
    exact (Option.some.inj ok3).symm
  have hfb : FrameBlind (zPre g n σ (zr b :: as)) := fun a U fr mk q => ⟨q.1, q.2.1, q.2.2.1, zK.calling fr mk a q.2.2.2⟩
  have hpc : ∀ U : State, U.heap = H → s.WarmedH U.vm → zPre g n σ (zr b :: as) ((zr b :: as).map (zv g)).toArray U := fun U hU hW => ⟨rfl, by rw [hU]; exact hz, by rw [hU]; exact hP, zK.warm hW hK⟩
  have hcat : 2 * (0 : Nat) + ((rest.map (zv g)).map fun v => v.category).sum ≤ 8 := by
    rw [zcat_eq]
    omega
  have hstk : ((as.reverse ++ zr b :: rest).map (zv g)) = (as.map (zv g)).reverse ++ zv g (zr b) :: rest.map (zv g) := by
    simp [List.map_append, List.map_reverse]
  have hfix : CallFix p m c cc ml s args zGW y.cls := ⟨hx, hb, hml, hown, hts⟩
  obtain ⟨⟨ho1, ho2, ho3⟩, ho4⟩ := ho
  have hat := zW_at g σ ho4
  rw [ho1] at hat
  subst ho3
  have hrecv := va_recv hK.1 hP.2.2 ho2 hat
  have hrun : va_Run p l e R s m args below meth c H locs (n - n0) w mc' ms' (F0 m pc ls ((as.reverse ++ zr b :: rest).map (zv g))) (rest.map (zv g)) (zPost g r n' σ' ((zr b :: as).map (zv g)).toArray) (zF g) := (va_runV (b := zad g b) (As := as.map (zv g)) (rest := rest.map (zv g)) hfix (hM l g) ⟨⟨rfl, rfl, hrm.1, hrm.2, hws, List.mem_cons_self, hts _ ok5, hts _ ok6, ⟨ok1, ok2⟩, hlen, hts _ lk.1⟩, hts _ lk.2.1, hts _ lk.2.2⟩ ⟨hfb, hrecv, hpc⟩ rfl (by rw [List.length_map]; exact hh2) hl.1 hstk hcat d ⟨by omega, by omega⟩)
  exact zrun hrun hS (fun H1 locs1 h1 h2 => by
    have hk := k ls H1 locs1 ⟨by omega, by omega, by omega⟩ hl h1 h2
    rw [show n' - n0 = n - n0 + mc' by omega, show ((r.toList ++ rest).map (zv g)) = (r.map (zv g)).toList ++ rest.map (zv g) by cases r <;> simp] at hk
    exact hk) T hT X
set_option maxHeartbeats 2000000 in
theorem x_callVN {y : MethodName} {cc : ByteArray} {ml : Nat} {ret : Option FieldType} {h mc ms n0 : Nat} {Ret : zRT} {K : zKT} (C : zX y cc ml ret h mc ms n0 Ret K) {pc : Nat} {Lo : List (Option zV)} {st : List zV} {n : Nat} {σ : zS} {w : Nat} {y' : MethodName} {cc' : ByteArray} {ml' : Nat} {ret' : Option FieldType} {h' mc' ms' na idx n' : Nat} {as rest : List zV} {r : Option zV} {σ' : zS} {b : Int} {ci : Nat} {vs : List zV} {C0 : String} {T0 : u_T} {N0 : Nat} (d : decode cc pc = .ok (.invokevirtual idx, 3)) (hM : zCt h' mc' ms' y' cc' ml' ret' (zr b :: as) n σ r n' σ') (ok : zOk y' cc' ml' ret' na) (lk : zNv y.cls idx y') (ho : (σ b = zO ci vs ∧ vwCl[ci]? = some (C0, T0, N0) ∧ C0 = y'.cls) ∧ 0 < b ∧ b ≤ n) (hh : h' < h ∧ as.length = na ∧ n' = n + mc' ∧ zcat rest ≤ 8) (hst : as.reverse ++ zr b :: rest = st) (hf : mc' = 0 ∧ ms' = 0 ∨ n + mc' ≤ n0 + mc ∧ w + ms' ≤ ms) (k : K (pc + 3) Lo (r.toList ++ rest) n' σ' (w + ms')) : K pc Lo st n σ w := by
  obtain ⟨p, l, e, R, s, m, args, below, meth, c, Q, g, ⟨hx, hb, hml, hown, hts, hK, hin⟩, hR, hsz, rfl, hrt⟩ := C
  intro ls H locs hn hl hP hS
  intro T hT X
  have hz : H.size = g.1.2 + 1 + n := by
    have h1 := X.heapSize
    rw [hT] at h1
    have h2 := hP.1
    omega
  subst hst
  obtain ⟨⟨ok1, ok2⟩, ok3, ok4, ok5, ok6⟩ := ok
  obtain ⟨hh1, hh2, hh3, hh4⟩ := hh
  have hws : ∀ w ∈ (Cond.code y' cc' ml' ret' :: zGW), ∀ (a' : Array Value) (U : State), s.WarmedH U.vm → w.before a' U = true := pay_in hts (zGoodIn ok5)
  have hrm : (zRm h' mc' ms').frames + 1 ≤ R.frames ∧ 8 + (ml' + 11) + (zRm h' mc' ms').locals ≤ R.locals := by
    show h' + 1 ≤ _ ∧ 8 + (ml' + 11) + 64 * h' ≤ _
    omega
  have hlen : ∀ sig, parseMethodDescriptor y'.desc = some sig → na = sig.parameters.length := fun sig q => by
    rw [q] at ok3
    exact (Option.some.inj ok3).symm
  have hfb : FrameBlind (zPre g n σ (zr b :: as)) := fun a U fr mk q => ⟨q.1, q.2.1, q.2.2.1, zK.calling fr mk a q.2.2.2⟩
  have hpc : ∀ U : State, U.heap = H → s.WarmedH U.vm → zPre g n σ (zr b :: as) ((zr b :: as).map (zv g)).toArray U := fun U hU hW => ⟨rfl, by rw [hU]; exact hz, by rw [hU]; exact hP, zK.warm hW hK⟩
  have hcat : 2 * (0 : Nat) + ((rest.map (zv g)).map fun v => v.category).sum ≤ 8 := by
    rw [zcat_eq]
    omega
  have hstk : ((as.reverse ++ zr b :: rest).map (zv g)) = (as.map (zv g)).reverse ++ zv g (zr b) :: rest.map (zv g) := by
    simp [List.map_append, List.map_reverse]
  have hfix : CallFix p m c cc ml s args zGW y.cls := ⟨hx, hb, hml, hown, hts⟩
  obtain ⟨⟨ho1, ho2, ho3⟩, ho4⟩ := ho
  have hat := zW_at g σ ho4
  rw [ho1] at hat
  subst ho3
  have hrecv := va_recv hK.1 hP.2.2 ho2 hat
  have hrun : va_Run p l e R s m args below meth c H locs (n - n0) w mc' ms' (F0 m pc ls ((as.reverse ++ zr b :: rest).map (zv g))) (rest.map (zv g)) (zPost g r n' σ' ((zr b :: as).map (zv g)).toArray) (zF g) := (va_runVN (b := zad g b) (As := as.map (zv g)) (rest := rest.map (zv g)) hfix (hM l g) ⟨⟨⟨rfl, rfl, hrm.1, hrm.2, hws, List.mem_cons_self⟩, hts _ ok5, hts _ ok6, ⟨ok1, ok2⟩, hlen, va_Nw.use rfl (hK.2.1 _ lk.1)⟩, hts _ lk.2.1, hts _ lk.2.2⟩ ⟨hfb, hrecv, hpc⟩ rfl (by rw [List.length_map]; exact hh2) hl.1 hstk hcat d ⟨by omega, by omega⟩)
  exact zrun hrun hS (fun H1 locs1 h1 h2 => by
    have hk := k ls H1 locs1 ⟨by omega, by omega, by omega⟩ hl h1 h2
    rw [show n' - n0 = n - n0 + mc' by omega, show ((r.toList ++ rest).map (zv g)) = (r.map (zv g)).toList ++ rest.map (zv g) by cases r <;> simp] at hk
    exact hk) T hT X
set_option maxHeartbeats 2000000 in
theorem x_callI {y : MethodName} {cc : ByteArray} {ml : Nat} {ret : Option FieldType} {h mc ms n0 : Nat} {Ret : zRT} {K : zKT} (C : zX y cc ml ret h mc ms n0 Ret K) {pc : Nat} {Lo : List (Option zV)} {st : List zV} {n : Nat} {σ : zS} {w : Nat} {y' : MethodName} {cc' : ByteArray} {ml' : Nat} {h' mc' ms' na idx n' : Nat} {as rest : List zV} {r : Option zV} {σ' : zS} {b : Int} (d : decode cc pc = .ok (.invokespecial idx, 3)) (hM : zCt h' mc' ms' y' cc' ml' none (zr b :: as) n σ r n' σ') (ok : zOk y' cc' ml' none na) (lk : zLi y.cls idx y') (hh : h' < h ∧ as.length = na ∧ n' = n + mc' ∧ zcat rest ≤ 8) (hst : as.reverse ++ zr b :: rest = st) (hf : mc' = 0 ∧ ms' = 0 ∨ n + mc' ≤ n0 + mc ∧ w + ms' ≤ ms) (k : K (pc + 3) Lo (r.toList ++ rest) n' σ' (w + ms')) : K pc Lo st n σ w := by
  obtain ⟨p, l, e, R, s, m, args, below, meth, c, Q, g, ⟨hx, hb, hml, hown, hts, hK, hin⟩, hR, hsz, rfl, hrt⟩ := C
  intro ls H locs hn hl hP hS
  intro T hT X
  have hz : H.size = g.1.2 + 1 + n := by
    have h1 := X.heapSize
    rw [hT] at h1
    have h2 := hP.1
    omega
  subst hst
  obtain ⟨⟨ok1, ok2⟩, ok3, ok4, ok5, ok6⟩ := ok
  obtain ⟨hh1, hh2, hh3, hh4⟩ := hh
  have hws : ∀ w ∈ (Cond.code y' cc' ml' none :: zGW), ∀ (a' : Array Value) (U : State), s.WarmedH U.vm → w.before a' U = true := pay_in hts (zGoodIn ok5)
  have hrm : (zRm h' mc' ms').frames + 1 ≤ R.frames ∧ 8 + (ml' + 11) + (zRm h' mc' ms').locals ≤ R.locals := by
    show h' + 1 ≤ _ ∧ 8 + (ml' + 11) + 64 * h' ≤ _
    omega
  have hlen : ∀ sig, parseMethodDescriptor y'.desc = some sig → na = sig.parameters.length := fun sig q => by
    rw [q] at ok3
    exact (Option.some.inj ok3).symm
  have hfb : FrameBlind (zPre g n σ (zr b :: as)) := fun a U fr mk q => ⟨q.1, q.2.1, q.2.2.1, zK.calling fr mk a q.2.2.2⟩
  have hpc : ∀ U : State, U.heap = H → s.WarmedH U.vm → zPre g n σ (zr b :: as) ((zr b :: as).map (zv g)).toArray U := fun U hU hW => ⟨rfl, by rw [hU]; exact hz, by rw [hU]; exact hP, zK.warm hW hK⟩
  have hcat : 2 * (0 : Nat) + ((rest.map (zv g)).map fun v => v.category).sum ≤ 8 := by
    rw [zcat_eq]
    omega
  have hstk : ((as.reverse ++ zr b :: rest).map (zv g)) = (as.map (zv g)).reverse ++ zv g (zr b) :: rest.map (zv g) := by
    simp [List.map_append, List.map_reverse]
  have hfix : CallFix p m c cc ml s args zGW y.cls := ⟨hx, hb, hml, hown, hts⟩
  have hrun : va_Run p l e R s m args below meth c H locs (n - n0) w mc' ms' (F0 m pc ls ((as.reverse ++ zr b :: rest).map (zv g))) (rest.map (zv g)) (zPost g r n' σ' ((zr b :: as).map (zv g)).toArray) (zF g) := (va_runI (b := zad g b) (As := as.map (zv g)) (rest := rest.map (zv g)) hfix (hM l g) ⟨⟨rfl, rfl, hrm.1, hrm.2, hws, List.mem_cons_self, hts _ ok5, hts _ ok6, ⟨ok1, ok2⟩, hlen, hts _ lk.1⟩, lk.2.2, hts _ lk.2.1⟩ ⟨hfb, hpc⟩ rfl (by rw [List.length_map]; exact hh2) hl.1 hstk hcat d ⟨by omega, by omega⟩)
  exact zrun hrun hS (fun H1 locs1 h1 h2 => by
    have hk := k ls H1 locs1 ⟨by omega, by omega, by omega⟩ hl h1 h2
    rw [show n' - n0 = n - n0 + mc' by omega, show ((r.toList ++ rest).map (zv g)) = (r.map (zv g)).toList ++ rest.map (zv g) by cases r <;> simp] at hk
    exact hk) T hT X
set_option maxHeartbeats 2000000 in
theorem x_callIN {y : MethodName} {cc : ByteArray} {ml : Nat} {ret : Option FieldType} {h mc ms n0 : Nat} {Ret : zRT} {K : zKT} (C : zX y cc ml ret h mc ms n0 Ret K) {pc : Nat} {Lo : List (Option zV)} {st : List zV} {n : Nat} {σ : zS} {w : Nat} {y' : MethodName} {cc' : ByteArray} {ml' : Nat} {h' mc' ms' na idx n' : Nat} {as rest : List zV} {r : Option zV} {σ' : zS} {b : Int} (d : decode cc pc = .ok (.invokespecial idx, 3)) (hM : zCt h' mc' ms' y' cc' ml' none (zr b :: as) n σ r n' σ') (ok : zOk y' cc' ml' none na) (lk : zNi y.cls idx y') (hh : h' < h ∧ as.length = na ∧ n' = n + mc' ∧ zcat rest ≤ 8) (hst : as.reverse ++ zr b :: rest = st) (hf : mc' = 0 ∧ ms' = 0 ∨ n + mc' ≤ n0 + mc ∧ w + ms' ≤ ms) (k : K (pc + 3) Lo (r.toList ++ rest) n' σ' (w + ms')) : K pc Lo st n σ w := by
  obtain ⟨p, l, e, R, s, m, args, below, meth, c, Q, g, ⟨hx, hb, hml, hown, hts, hK, hin⟩, hR, hsz, rfl, hrt⟩ := C
  intro ls H locs hn hl hP hS
  intro T hT X
  have hz : H.size = g.1.2 + 1 + n := by
    have h1 := X.heapSize
    rw [hT] at h1
    have h2 := hP.1
    omega
  subst hst
  obtain ⟨⟨ok1, ok2⟩, ok3, ok4, ok5, ok6⟩ := ok
  obtain ⟨hh1, hh2, hh3, hh4⟩ := hh
  have hws : ∀ w ∈ (Cond.code y' cc' ml' none :: zGW), ∀ (a' : Array Value) (U : State), s.WarmedH U.vm → w.before a' U = true := pay_in hts (zGoodIn ok5)
  have hrm : (zRm h' mc' ms').frames + 1 ≤ R.frames ∧ 8 + (ml' + 11) + (zRm h' mc' ms').locals ≤ R.locals := by
    show h' + 1 ≤ _ ∧ 8 + (ml' + 11) + 64 * h' ≤ _
    omega
  have hlen : ∀ sig, parseMethodDescriptor y'.desc = some sig → na = sig.parameters.length := fun sig q => by
    rw [q] at ok3
    exact (Option.some.inj ok3).symm
  have hfb : FrameBlind (zPre g n σ (zr b :: as)) := fun a U fr mk q => ⟨q.1, q.2.1, q.2.2.1, zK.calling fr mk a q.2.2.2⟩
  have hpc : ∀ U : State, U.heap = H → s.WarmedH U.vm → zPre g n σ (zr b :: as) ((zr b :: as).map (zv g)).toArray U := fun U hU hW => ⟨rfl, by rw [hU]; exact hz, by rw [hU]; exact hP, zK.warm hW hK⟩
  have hcat : 2 * (0 : Nat) + ((rest.map (zv g)).map fun v => v.category).sum ≤ 8 := by
    rw [zcat_eq]
    omega
  have hstk : ((as.reverse ++ zr b :: rest).map (zv g)) = (as.map (zv g)).reverse ++ zv g (zr b) :: rest.map (zv g) := by
    simp [List.map_append, List.map_reverse]
  have hfix : CallFix p m c cc ml s args zGW y.cls := ⟨hx, hb, hml, hown, hts⟩
  have hrun : va_Run p l e R s m args below meth c H locs (n - n0) w mc' ms' (F0 m pc ls ((as.reverse ++ zr b :: rest).map (zv g))) (rest.map (zv g)) (zPost g r n' σ' ((zr b :: as).map (zv g)).toArray) (zF g) := (va_runIN (b := zad g b) (As := as.map (zv g)) (rest := rest.map (zv g)) hfix (hM l g) ⟨⟨⟨rfl, rfl, hrm.1, hrm.2, hws, List.mem_cons_self⟩, hts _ ok5, hts _ ok6, ⟨ok1, ok2⟩, hlen, va_Nw.use rfl (hK.2.1 _ lk.1)⟩, lk.2.2, hts _ lk.2.1⟩ ⟨hfb, hpc⟩ rfl (by rw [List.length_map]; exact hh2) hl.1 hstk hcat d ⟨by omega, by omega⟩)
  exact zrun hrun hS (fun H1 locs1 h1 h2 => by
    have hk := k ls H1 locs1 ⟨by omega, by omega, by omega⟩ hl h1 h2
    rw [show n' - n0 = n - n0 + mc' by omega, show ((r.toList ++ rest).map (zv g)) = (r.map (zv g)).toList ++ rest.map (zv g) by cases r <;> simp] at hk
    exact hk) T hT X
end
section
theorem inX0 : ∀ w ∈ u_ws RX0 TX0 3, w ∈ zGW := by decide +kernel
theorem inX1 : ∀ w ∈ u_ws RX1 TX1 2, w ∈ zGW := by decide +kernel
theorem inX2 : ∀ w ∈ u_ws RX2 TX2 8, w ∈ zGW := by decide +kernel
theorem inX3 : ∀ w ∈ u_ws RX3 TX3 2, w ∈ zGW := by decide +kernel
theorem inX4 : ∀ w ∈ u_ws RX4 TX4 2, w ∈ zGW := by decide +kernel
theorem inX5 : ∀ w ∈ u_ws RX5 TX5 6, w ∈ zGW := by decide +kernel
theorem inX6 : ∀ w ∈ u_ws RX6 TX6 18, w ∈ zGW := by decide +kernel
theorem kiX0 : Cond.instantiable RX0 3 ∈ zGW ∧ Cond.initialized RX0 ∈ zGW := ⟨zGW_in 114 (by decide +kernel) (by decide +kernel), zGW_in 66 (by decide +kernel) (by decide +kernel)⟩
theorem lyX0_0 : zFy 0 0 true (.array (.object "BlockTrees$State")) := by
  intro C T N h
  cases (show some (RX0, TX0, 3) = some (C, T, N) from h)
  exact ⟨⟨tyX0, tyX0_ok⟩, nmX0, by decide +kernel, by decide +kernel, by decide +kernel⟩
theorem lyX0_1 : zFy 0 1 false .int := by
  intro C T N h
  cases (show some (RX0, TX0, 3) = some (C, T, N) from h)
  exact ⟨⟨tyX0, tyX0_ok⟩, nmX0, by decide +kernel, by decide +kernel, by decide +kernel⟩
theorem lyX0_2 : zFy 0 2 false .int := by
  intro C T N h
  cases (show some (RX0, TX0, 3) = some (C, T, N) from h)
  exact ⟨⟨tyX0, tyX0_ok⟩, nmX0, by decide +kernel, by decide +kernel, by decide +kernel⟩
theorem kiX1 : Cond.instantiable RX1 2 ∈ zGW ∧ Cond.initialized RX1 ∈ zGW := ⟨zGW_in 90 (by decide +kernel) (by decide +kernel), zGW_in 65 (by decide +kernel) (by decide +kernel)⟩
theorem lyX1_0 : zFy 1 0 true (.array .int) := by
  intro C T N h
  cases (show some (RX1, TX1, 2) = some (C, T, N) from h)
  exact ⟨⟨tyX1, tyX1_ok⟩, nmX1, by decide +kernel, by decide +kernel, by decide +kernel⟩
theorem lyX1_1 : zFy 1 1 true (.array .int) := by
  intro C T N h
  cases (show some (RX1, TX1, 2) = some (C, T, N) from h)
  exact ⟨⟨tyX1, tyX1_ok⟩, nmX1, by decide +kernel, by decide +kernel, by decide +kernel⟩
theorem kiX2 : Cond.instantiable RX2 8 ∈ zGW ∧ Cond.initialized RX2 ∈ zGW := ⟨zGW_in 136 (by decide +kernel) (by decide +kernel), zGW_in 67 (by decide +kernel) (by decide +kernel)⟩
theorem lyX2_0 : zFy 2 0 true (.array .char) := by
  intro C T N h
  cases (show some (RX2, TX2, 8) = some (C, T, N) from h)
  exact ⟨⟨tyX2, tyX2_ok⟩, nmX2, by decide +kernel, by decide +kernel, by decide +kernel⟩
theorem lyX2_1 : zFy 2 1 false .int := by
  intro C T N h
  cases (show some (RX2, TX2, 8) = some (C, T, N) from h)
  exact ⟨⟨tyX2, tyX2_ok⟩, nmX2, by decide +kernel, by decide +kernel, by decide +kernel⟩
theorem lyX2_2 : zFy 2 2 true (.object "BlockTrees$Matrix") := by
  intro C T N h
  cases (show some (RX2, TX2, 8) = some (C, T, N) from h)
  exact ⟨⟨tyX2, tyX2_ok⟩, nmX2, by decide +kernel, by decide +kernel, by decide +kernel⟩
theorem lyX2_3 : zFy 2 3 true (.array .int) := by
  intro C T N h
  cases (show some (RX2, TX2, 8) = some (C, T, N) from h)
  exact ⟨⟨tyX2, tyX2_ok⟩, nmX2, by decide +kernel, by decide +kernel, by decide +kernel⟩
theorem lyX2_4 : zFy 2 4 true (.array .int) := by
  intro C T N h
  cases (show some (RX2, TX2, 8) = some (C, T, N) from h)
  exact ⟨⟨tyX2, tyX2_ok⟩, nmX2, by decide +kernel, by decide +kernel, by decide +kernel⟩
theorem lyX2_5 : zFy 2 5 true (.array .int) := by
  intro C T N h
  cases (show some (RX2, TX2, 8) = some (C, T, N) from h)
  exact ⟨⟨tyX2, tyX2_ok⟩, nmX2, by decide +kernel, by decide +kernel, by decide +kernel⟩
theorem lyX2_6 : zFy 2 6 false .int := by
  intro C T N h
  cases (show some (RX2, TX2, 8) = some (C, T, N) from h)
  exact ⟨⟨tyX2, tyX2_ok⟩, nmX2, by decide +kernel, by decide +kernel, by decide +kernel⟩
theorem lyX2_7 : zFy 2 7 false .int := by
  intro C T N h
  cases (show some (RX2, TX2, 8) = some (C, T, N) from h)
  exact ⟨⟨tyX2, tyX2_ok⟩, nmX2, by decide +kernel, by decide +kernel, by decide +kernel⟩
theorem kiX3 : Cond.instantiable RX3 2 ∈ zGW ∧ Cond.initialized RX3 ∈ zGW := ⟨zGW_in 174 (by decide +kernel) (by decide +kernel), zGW_in 68 (by decide +kernel) (by decide +kernel)⟩
theorem lyX3_0 : zFy 3 0 true (.object "BlockTrees$State") := by
  intro C T N h
  cases (show some (RX3, TX3, 2) = some (C, T, N) from h)
  exact ⟨⟨tyX3, tyX3_ok⟩, nmX3, by decide +kernel, by decide +kernel, by decide +kernel⟩
theorem lyX3_1 : zFy 3 1 false .boolean := by
  intro C T N h
  cases (show some (RX3, TX3, 2) = some (C, T, N) from h)
  exact ⟨⟨tyX3, tyX3_ok⟩, nmX3, by decide +kernel, by decide +kernel, by decide +kernel⟩
theorem kiX4 : Cond.instantiable RX4 2 ∈ zGW ∧ Cond.initialized RX4 ∈ zGW := ⟨zGW_in 83 (by decide +kernel) (by decide +kernel), zGW_in 64 (by decide +kernel) (by decide +kernel)⟩
theorem lyX4_0 : zFy 4 0 true (.array (.object "BlockTrees$Matrix")) := by
  intro C T N h
  cases (show some (RX4, TX4, 2) = some (C, T, N) from h)
  exact ⟨⟨tyX4, tyX4_ok⟩, nmX4, by decide +kernel, by decide +kernel, by decide +kernel⟩
theorem lyX4_1 : zFy 4 1 false .int := by
  intro C T N h
  cases (show some (RX4, TX4, 2) = some (C, T, N) from h)
  exact ⟨⟨tyX4, tyX4_ok⟩, nmX4, by decide +kernel, by decide +kernel, by decide +kernel⟩
theorem kiX5 : Cond.instantiable RX5 6 ∈ zGW ∧ Cond.initialized RX5 ∈ zGW := ⟨zGW_in 75 (by decide +kernel) (by decide +kernel), zGW_in 63 (by decide +kernel) (by decide +kernel)⟩
theorem lyX5_0 : zFy 5 0 true (.object "BlockTrees$State") := by
  intro C T N h
  cases (show some (RX5, TX5, 6) = some (C, T, N) from h)
  exact ⟨⟨tyX5, tyX5_ok⟩, nmX5, by decide +kernel, by decide +kernel, by decide +kernel⟩
theorem lyX5_1 : zFy 5 1 true (.object "BlockTrees$History") := by
  intro C T N h
  cases (show some (RX5, TX5, 6) = some (C, T, N) from h)
  exact ⟨⟨tyX5, tyX5_ok⟩, nmX5, by decide +kernel, by decide +kernel, by decide +kernel⟩
theorem lyX5_2 : zFy 5 2 true (.array (.object "BlockTrees$Slot")) := by
  intro C T N h
  cases (show some (RX5, TX5, 6) = some (C, T, N) from h)
  exact ⟨⟨tyX5, tyX5_ok⟩, nmX5, by decide +kernel, by decide +kernel, by decide +kernel⟩
theorem lyX5_3 : zFy 5 3 true (.object "BlockTrees$Pad") := by
  intro C T N h
  cases (show some (RX5, TX5, 6) = some (C, T, N) from h)
  exact ⟨⟨tyX5, tyX5_ok⟩, nmX5, by decide +kernel, by decide +kernel, by decide +kernel⟩
theorem lyX5_4 : zFy 5 4 true (.object "BlockTrees$Matrix") := by
  intro C T N h
  cases (show some (RX5, TX5, 6) = some (C, T, N) from h)
  exact ⟨⟨tyX5, tyX5_ok⟩, nmX5, by decide +kernel, by decide +kernel, by decide +kernel⟩
theorem lyX5_5 : zFy 5 5 true (.array .int) := by
  intro C T N h
  cases (show some (RX5, TX5, 6) = some (C, T, N) from h)
  exact ⟨⟨tyX5, tyX5_ok⟩, nmX5, by decide +kernel, by decide +kernel, by decide +kernel⟩
theorem kiX6 : Cond.instantiable RX6 18 ∈ zGW ∧ Cond.initialized RX6 ∈ zGW := ⟨zGW_in 607 (by decide +kernel) (by decide +kernel), zGW_in 69 (by decide +kernel) (by decide +kernel)⟩
theorem lyX6_0 : zFy 6 0 false .int := by
  intro C T N h
  cases (show some (RX6, TX6, 18) = some (C, T, N) from h)
  exact ⟨⟨tyX6, tyX6_ok⟩, nmX6, by decide +kernel, by decide +kernel, by decide +kernel⟩
theorem lyX6_1 : zFy 6 1 true (.array .int) := by
  intro C T N h
  cases (show some (RX6, TX6, 18) = some (C, T, N) from h)
  exact ⟨⟨tyX6, tyX6_ok⟩, nmX6, by decide +kernel, by decide +kernel, by decide +kernel⟩
theorem lyX6_2 : zFy 6 2 true (.array .int) := by
  intro C T N h
  cases (show some (RX6, TX6, 18) = some (C, T, N) from h)
  exact ⟨⟨tyX6, tyX6_ok⟩, nmX6, by decide +kernel, by decide +kernel, by decide +kernel⟩
theorem lyX6_3 : zFy 6 3 true (.array .int) := by
  intro C T N h
  cases (show some (RX6, TX6, 18) = some (C, T, N) from h)
  exact ⟨⟨tyX6, tyX6_ok⟩, nmX6, by decide +kernel, by decide +kernel, by decide +kernel⟩
theorem lyX6_4 : zFy 6 4 false .int := by
  intro C T N h
  cases (show some (RX6, TX6, 18) = some (C, T, N) from h)
  exact ⟨⟨tyX6, tyX6_ok⟩, nmX6, by decide +kernel, by decide +kernel, by decide +kernel⟩
theorem lyX6_5 : zFy 6 5 true (.array .int) := by
  intro C T N h
  cases (show some (RX6, TX6, 18) = some (C, T, N) from h)
  exact ⟨⟨tyX6, tyX6_ok⟩, nmX6, by decide +kernel, by decide +kernel, by decide +kernel⟩
theorem lyX6_6 : zFy 6 6 true (.array .boolean) := by
  intro C T N h
  cases (show some (RX6, TX6, 18) = some (C, T, N) from h)
  exact ⟨⟨tyX6, tyX6_ok⟩, nmX6, by decide +kernel, by decide +kernel, by decide +kernel⟩
theorem lyX6_7 : zFy 6 7 true (.array .int) := by
  intro C T N h
  cases (show some (RX6, TX6, 18) = some (C, T, N) from h)
  exact ⟨⟨tyX6, tyX6_ok⟩, nmX6, by decide +kernel, by decide +kernel, by decide +kernel⟩
theorem lyX6_8 : zFy 6 8 false .int := by
  intro C T N h
  cases (show some (RX6, TX6, 18) = some (C, T, N) from h)
  exact ⟨⟨tyX6, tyX6_ok⟩, nmX6, by decide +kernel, by decide +kernel, by decide +kernel⟩
theorem lyX6_9 : zFy 6 9 false .int := by
  intro C T N h
  cases (show some (RX6, TX6, 18) = some (C, T, N) from h)
  exact ⟨⟨tyX6, tyX6_ok⟩, nmX6, by decide +kernel, by decide +kernel, by decide +kernel⟩
theorem lyX6_10 : zFy 6 10 false .boolean := by
  intro C T N h
  cases (show some (RX6, TX6, 18) = some (C, T, N) from h)
  exact ⟨⟨tyX6, tyX6_ok⟩, nmX6, by decide +kernel, by decide +kernel, by decide +kernel⟩
theorem lyX6_11 : zFy 6 11 true (.array .int) := by
  intro C T N h
  cases (show some (RX6, TX6, 18) = some (C, T, N) from h)
  exact ⟨⟨tyX6, tyX6_ok⟩, nmX6, by decide +kernel, by decide +kernel, by decide +kernel⟩
theorem lyX6_12 : zFy 6 12 true (.array .int) := by
  intro C T N h
  cases (show some (RX6, TX6, 18) = some (C, T, N) from h)
  exact ⟨⟨tyX6, tyX6_ok⟩, nmX6, by decide +kernel, by decide +kernel, by decide +kernel⟩
theorem lyX6_13 : zFy 6 13 true (.array .int) := by
  intro C T N h
  cases (show some (RX6, TX6, 18) = some (C, T, N) from h)
  exact ⟨⟨tyX6, tyX6_ok⟩, nmX6, by decide +kernel, by decide +kernel, by decide +kernel⟩
theorem lyX6_14 : zFy 6 14 false .int := by
  intro C T N h
  cases (show some (RX6, TX6, 18) = some (C, T, N) from h)
  exact ⟨⟨tyX6, tyX6_ok⟩, nmX6, by decide +kernel, by decide +kernel, by decide +kernel⟩
theorem lyX6_15 : zFy 6 15 false .int := by
  intro C T N h
  cases (show some (RX6, TX6, 18) = some (C, T, N) from h)
  exact ⟨⟨tyX6, tyX6_ok⟩, nmX6, by decide +kernel, by decide +kernel, by decide +kernel⟩
theorem lyX6_16 : zFy 6 16 false .int := by
  intro C T N h
  cases (show some (RX6, TX6, 18) = some (C, T, N) from h)
  exact ⟨⟨tyX6, tyX6_ok⟩, nmX6, by decide +kernel, by decide +kernel, by decide +kernel⟩
theorem lyX6_17 : zFy 6 17 true (.array .boolean) := by
  intro C T N h
  cases (show some (RX6, TX6, 18) = some (C, T, N) from h)
  exact ⟨⟨tyX6, tyX6_ok⟩, nmX6, by decide +kernel, by decide +kernel, by decide +kernel⟩
theorem ka_int : Cond.arrayClass .int ∈ zGW := zGW_in 103 (by decide +kernel) (by decide +kernel)
theorem ka_boolean : Cond.arrayClass .boolean ∈ zGW := zGW_in 667 (by decide +kernel) (by decide +kernel)
theorem ka_char : Cond.arrayClass .char ∈ zGW := zGW_in 171 (by decide +kernel) (by decide +kernel)
theorem okX5_init : zOk yX5_init cX5_init 2 none 0 := ⟨⟨by decide +kernel, by decide +kernel⟩, by decide +kernel, by decide, zGW_in 78 (by decide +kernel) (by decide +kernel), zGW_in 63 (by decide +kernel) (by decide +kernel)⟩
theorem okX4_init : zOk yX4_init cX4_init 2 none 0 := ⟨⟨by decide +kernel, by decide +kernel⟩, by decide +kernel, by decide, zGW_in 86 (by decide +kernel) (by decide +kernel), zGW_in 64 (by decide +kernel) (by decide +kernel)⟩
theorem okX1_init : zOk yX1_init cX1_init 1 none 0 := ⟨⟨by decide +kernel, by decide +kernel⟩, by decide +kernel, by decide, zGW_in 93 (by decide +kernel) (by decide +kernel), zGW_in 65 (by decide +kernel) (by decide +kernel)⟩
theorem okX0_init : zOk yX0_init cX0_init 2 none 0 := ⟨⟨by decide +kernel, by decide +kernel⟩, by decide +kernel, by decide, zGW_in 117 (by decide +kernel) (by decide +kernel), zGW_in 66 (by decide +kernel) (by decide +kernel)⟩
theorem okX2_init : zOk yX2_init cX2_init 1 none 0 := ⟨⟨by decide +kernel, by decide +kernel⟩, by decide +kernel, by decide, zGW_in 139 (by decide +kernel) (by decide +kernel), zGW_in 67 (by decide +kernel) (by decide +kernel)⟩
theorem okX3_init : zOk yX3_init cX3_init 1 none 0 := ⟨⟨by decide +kernel, by decide +kernel⟩, by decide +kernel, by decide, zGW_in 177 (by decide +kernel) (by decide +kernel), zGW_in 68 (by decide +kernel) (by decide +kernel)⟩
theorem okX5_tell : zOk yX5_tell cX5_tell 2 (some .int) 1 := ⟨⟨by decide +kernel, by decide +kernel⟩, by decide +kernel, by decide, zGW_in 212 (by decide +kernel) (by decide +kernel), zGW_in 63 (by decide +kernel) (by decide +kernel)⟩
theorem okX5_isMatrix : zOk yX5_isMatrix cX5_isMatrix 1 (some .boolean) 1 := ⟨⟨by decide +kernel, by decide +kernel⟩, by decide +kernel, by decide, zGW_in 215 (by decide +kernel) (by decide +kernel), zGW_in 63 (by decide +kernel) (by decide +kernel)⟩
theorem okX2_read : zOk yX2_read cX2_read 1 (some .boolean) 0 := ⟨⟨by decide +kernel, by decide +kernel⟩, by decide +kernel, by decide, zGW_in 219 (by decide +kernel) (by decide +kernel), zGW_in 67 (by decide +kernel) (by decide +kernel)⟩
theorem okX2_readBlock : zOk yX2_readBlock cX2_readBlock 4 (some .boolean) 3 := ⟨⟨by decide +kernel, by decide +kernel⟩, by decide +kernel, by decide, zGW_in 223 (by decide +kernel) (by decide +kernel), zGW_in 67 (by decide +kernel) (by decide +kernel)⟩
theorem okX2_passes : zOk yX2_passes cX2_passes 2 (some .boolean) 1 := ⟨⟨by decide +kernel, by decide +kernel⟩, by decide +kernel, by decide, zGW_in 227 (by decide +kernel) (by decide +kernel), zGW_in 67 (by decide +kernel) (by decide +kernel)⟩
theorem okX1_setEmpty : zOk yX1_setEmpty cX1_setEmpty 7 none 3 := ⟨⟨by decide +kernel, by decide +kernel⟩, by decide +kernel, by decide, zGW_in 231 (by decide +kernel) (by decide +kernel), zGW_in 65 (by decide +kernel) (by decide +kernel)⟩
theorem okX1_setSort : zOk yX1_setSort cX1_setSort 5 none 4 := ⟨⟨by decide +kernel, by decide +kernel⟩, by decide +kernel, by decide, zGW_in 235 (by decide +kernel) (by decide +kernel), zGW_in 65 (by decide +kernel) (by decide +kernel)⟩
theorem okX1_numberOf : zOk yX1_numberOf cX1_numberOf 5 (some .int) 3 := ⟨⟨by decide +kernel, by decide +kernel⟩, by decide +kernel, by decide, zGW_in 238 (by decide +kernel) (by decide +kernel), zGW_in 65 (by decide +kernel) (by decide +kernel)⟩
theorem okX5_sizeAt : zOk yX5_sizeAt cX5_sizeAt 1 (some .int) 1 := ⟨⟨by decide +kernel, by decide +kernel⟩, by decide +kernel, by decide, zGW_in 241 (by decide +kernel) (by decide +kernel), zGW_in 63 (by decide +kernel) (by decide +kernel)⟩
theorem okX1_cellOf : zOk yX1_cellOf cX1_cellOf 2 (some .int) 2 := ⟨⟨by decide +kernel, by decide +kernel⟩, by decide +kernel, by decide, zGW_in 244 (by decide +kernel) (by decide +kernel), zGW_in 65 (by decide +kernel) (by decide +kernel)⟩
theorem okX2_readSame : zOk yX2_readSame cX2_readSame 5 (some .boolean) 3 := ⟨⟨by decide +kernel, by decide +kernel⟩, by decide +kernel, by decide, zGW_in 248 (by decide +kernel) (by decide +kernel), zGW_in 67 (by decide +kernel) (by decide +kernel)⟩
theorem okX2_readValue : zOk yX2_readValue cX2_readValue 3 (some .boolean) 0 := ⟨⟨by decide +kernel, by decide +kernel⟩, by decide +kernel, by decide, zGW_in 252 (by decide +kernel) (by decide +kernel), zGW_in 67 (by decide +kernel) (by decide +kernel)⟩
theorem okX2_digit : zOk yX2_digit cX2_digit 1 (some .int) 0 := ⟨⟨by decide +kernel, by decide +kernel⟩, by decide +kernel, by decide, zGW_in 256 (by decide +kernel) (by decide +kernel), zGW_in 67 (by decide +kernel) (by decide +kernel)⟩
theorem okX1_setThin : zOk yX1_setThin cX1_setThin 9 none 5 := ⟨⟨by decide +kernel, by decide +kernel⟩, by decide +kernel, by decide, zGW_in 260 (by decide +kernel) (by decide +kernel), zGW_in 65 (by decide +kernel) (by decide +kernel)⟩
theorem okX2_readProduct : zOk yX2_readProduct cX2_readProduct 5 (some .boolean) 3 := ⟨⟨by decide +kernel, by decide +kernel⟩, by decide +kernel, by decide, zGW_in 264 (by decide +kernel) (by decide +kernel), zGW_in 67 (by decide +kernel) (by decide +kernel)⟩
theorem okX2_readValues : zOk yX2_readValues cX2_readValues 7 (some .boolean) 2 := ⟨⟨by decide +kernel, by decide +kernel⟩, by decide +kernel, by decide, zGW_in 269 (by decide +kernel) (by decide +kernel), zGW_in 67 (by decide +kernel) (by decide +kernel)⟩
theorem okJ9_min_7cf53 : zOk yJ9_min_7cf53 cJ9_min_7cf53 2 (some .int) 2 := ⟨⟨by decide +kernel, by decide +kernel⟩, by decide +kernel, by decide, zGW_in 272 (by decide +kernel) (by decide +kernel), zGW_in 70 (by decide +kernel) (by decide +kernel)⟩
theorem okX2_readFull : zOk yX2_readFull cX2_readFull 5 (some .boolean) 3 := ⟨⟨by decide +kernel, by decide +kernel⟩, by decide +kernel, by decide, zGW_in 276 (by decide +kernel) (by decide +kernel), zGW_in 67 (by decide +kernel) (by decide +kernel)⟩
theorem okX1_setFull : zOk yX1_setFull cX1_setFull 8 none 4 := ⟨⟨by decide +kernel, by decide +kernel⟩, by decide +kernel, by decide, zGW_in 280 (by decide +kernel) (by decide +kernel), zGW_in 65 (by decide +kernel) (by decide +kernel)⟩
theorem okX2_readParts : zOk yX2_readParts cX2_readParts 7 (some .boolean) 3 := ⟨⟨by decide +kernel, by decide +kernel⟩, by decide +kernel, by decide, zGW_in 284 (by decide +kernel) (by decide +kernel), zGW_in 67 (by decide +kernel) (by decide +kernel)⟩
theorem okX1_rowOfPart : zOk yX1_rowOfPart cX1_rowOfPart 3 (some .int) 3 := ⟨⟨by decide +kernel, by decide +kernel⟩, by decide +kernel, by decide, zGW_in 288 (by decide +kernel) (by decide +kernel), zGW_in 65 (by decide +kernel) (by decide +kernel)⟩
theorem okX1_columnOfPart : zOk yX1_columnOfPart cX1_columnOfPart 3 (some .int) 3 := ⟨⟨by decide +kernel, by decide +kernel⟩, by decide +kernel, by decide, zGW_in 291 (by decide +kernel) (by decide +kernel), zGW_in 65 (by decide +kernel) (by decide +kernel)⟩
theorem okX5_beginChange : zOk yX5_beginChange cX5_beginChange 1 none 0 := ⟨⟨by decide +kernel, by decide +kernel⟩, by decide +kernel, by decide, zGW_in 295 (by decide +kernel) (by decide +kernel), zGW_in 63 (by decide +kernel) (by decide +kernel)⟩
theorem okX0_keep : zOk yX0_keep cX0_keep 2 none 1 := ⟨⟨by decide +kernel, by decide +kernel⟩, by decide +kernel, by decide, zGW_in 299 (by decide +kernel) (by decide +kernel), zGW_in 66 (by decide +kernel) (by decide +kernel)⟩
theorem okX4_become : zOk yX4_become cX4_become 3 none 1 := ⟨⟨by decide +kernel, by decide +kernel⟩, by decide +kernel, by decide, zGW_in 303 (by decide +kernel) (by decide +kernel), zGW_in 64 (by decide +kernel) (by decide +kernel)⟩
theorem okX1_become : zOk yX1_become cX1_become 2 none 1 := ⟨⟨by decide +kernel, by decide +kernel⟩, by decide +kernel, by decide, zGW_in 307 (by decide +kernel) (by decide +kernel), zGW_in 65 (by decide +kernel) (by decide +kernel)⟩
theorem okX1_room : zOk yX1_room cX1_room 1 (some .int) 0 := ⟨⟨by decide +kernel, by decide +kernel⟩, by decide +kernel, by decide, zGW_in 315 (by decide +kernel) (by decide +kernel), zGW_in 65 (by decide +kernel) (by decide +kernel)⟩
theorem okX1_roomFrom : zOk yX1_roomFrom cX1_roomFrom 6 (some .int) 3 := ⟨⟨by decide +kernel, by decide +kernel⟩, by decide +kernel, by decide, zGW_in 319 (by decide +kernel) (by decide +kernel), zGW_in 65 (by decide +kernel) (by decide +kernel)⟩
theorem okX1_isCut : zOk yX1_isCut cX1_isCut 4 (some .boolean) 3 := ⟨⟨by decide +kernel, by decide +kernel⟩, by decide +kernel, by decide, zGW_in 323 (by decide +kernel) (by decide +kernel), zGW_in 65 (by decide +kernel) (by decide +kernel)⟩
theorem okX1_sortOf : zOk yX1_sortOf cX1_sortOf 4 (some .int) 3 := ⟨⟨by decide +kernel, by decide +kernel⟩, by decide +kernel, by decide, zGW_in 327 (by decide +kernel) (by decide +kernel), zGW_in 65 (by decide +kernel) (by decide +kernel)⟩
theorem okX5_roomOfUncut : zOk yX5_roomOfUncut cX5_roomOfUncut 2 (some .int) 2 := ⟨⟨by decide +kernel, by decide +kernel⟩, by decide +kernel, by decide, zGW_in 330 (by decide +kernel) (by decide +kernel), zGW_in 63 (by decide +kernel) (by decide +kernel)⟩
theorem okX5_entry : zOk yX5_entry cX5_entry 6 (some .int) 4 := ⟨⟨by decide +kernel, by decide +kernel⟩, by decide +kernel, by decide, zGW_in 336 (by decide +kernel) (by decide +kernel), zGW_in 63 (by decide +kernel) (by decide +kernel)⟩
theorem okX5_isPlace : zOk yX5_isPlace cX5_isPlace 3 (some .boolean) 3 := ⟨⟨by decide +kernel, by decide +kernel⟩, by decide +kernel, by decide, zGW_in 339 (by decide +kernel) (by decide +kernel), zGW_in 63 (by decide +kernel) (by decide +kernel)⟩
theorem okX5_isWithin : zOk yX5_isWithin cX5_isWithin 2 (some .boolean) 2 := ⟨⟨by decide +kernel, by decide +kernel⟩, by decide +kernel, by decide, zGW_in 343 (by decide +kernel) (by decide +kernel), zGW_in 63 (by decide +kernel) (by decide +kernel)⟩
theorem okX1_entryAt : zOk yX1_entryAt cX1_entryAt 3 (some .int) 2 := ⟨⟨by decide +kernel, by decide +kernel⟩, by decide +kernel, by decide, zGW_in 347 (by decide +kernel) (by decide +kernel), zGW_in 65 (by decide +kernel) (by decide +kernel)⟩
theorem okX1_changeEntry : zOk yX1_changeEntry cX1_changeEntry 5 none 3 := ⟨⟨by decide +kernel, by decide +kernel⟩, by decide +kernel, by decide, zGW_in 351 (by decide +kernel) (by decide +kernel), zGW_in 65 (by decide +kernel) (by decide +kernel)⟩
theorem okX1_cutBlock : zOk yX1_cutBlock cX1_cutBlock 8 none 3 := ⟨⟨by decide +kernel, by decide +kernel⟩, by decide +kernel, by decide, zGW_in 355 (by decide +kernel) (by decide +kernel), zGW_in 65 (by decide +kernel) (by decide +kernel)⟩
theorem okX5_firstOf : zOk yX5_firstOf cX5_firstOf 2 (some .int) 2 := ⟨⟨by decide +kernel, by decide +kernel⟩, by decide +kernel, by decide, zGW_in 358 (by decide +kernel) (by decide +kernel), zGW_in 63 (by decide +kernel) (by decide +kernel)⟩
theorem okX5_shrink : zOk yX5_shrink cX5_shrink 3 (some .int) 1 := ⟨⟨by decide +kernel, by decide +kernel⟩, by decide +kernel, by decide, zGW_in 363 (by decide +kernel) (by decide +kernel), zGW_in 63 (by decide +kernel) (by decide +kernel)⟩
theorem okX1_makeSmaller : zOk yX1_makeSmaller cX1_makeSmaller 1 (some .int) 0 := ⟨⟨by decide +kernel, by decide +kernel⟩, by decide +kernel, by decide, zGW_in 367 (by decide +kernel) (by decide +kernel), zGW_in 65 (by decide +kernel) (by decide +kernel)⟩
theorem okX1_makeSmallerFrom : zOk yX1_makeSmallerFrom cX1_makeSmallerFrom 7 (some .int) 3 := ⟨⟨by decide +kernel, by decide +kernel⟩, by decide +kernel, by decide, zGW_in 371 (by decide +kernel) (by decide +kernel), zGW_in 65 (by decide +kernel) (by decide +kernel)⟩
theorem okX1_makePartsSmaller : zOk yX1_makePartsSmaller cX1_makePartsSmaller 6 (some .int) 3 := ⟨⟨by decide +kernel, by decide +kernel⟩, by decide +kernel, by decide, zGW_in 375 (by decide +kernel) (by decide +kernel), zGW_in 65 (by decide +kernel) (by decide +kernel)⟩
theorem okX1_toldByOne : zOk yX1_toldByOne cX1_toldByOne 10 (some .int) 3 := ⟨⟨by decide +kernel, by decide +kernel⟩, by decide +kernel, by decide, zGW_in 379 (by decide +kernel) (by decide +kernel), zGW_in 65 (by decide +kernel) (by decide +kernel)⟩
theorem okX1_firstFilledRow : zOk yX1_firstFilledRow cX1_firstFilledRow 6 (some .int) 3 := ⟨⟨by decide +kernel, by decide +kernel⟩, by decide +kernel, by decide, zGW_in 383 (by decide +kernel) (by decide +kernel), zGW_in 65 (by decide +kernel) (by decide +kernel)⟩
theorem okX1_firstFilledColumn : zOk yX1_firstFilledColumn cX1_firstFilledColumn 6 (some .int) 3 := ⟨⟨by decide +kernel, by decide +kernel⟩, by decide +kernel, by decide, zGW_in 387 (by decide +kernel) (by decide +kernel), zGW_in 65 (by decide +kernel) (by decide +kernel)⟩
theorem okX5_add : zOk yX5_add cX5_add 4 (some .int) 3 := ⟨⟨by decide +kernel, by decide +kernel⟩, by decide +kernel, by decide, zGW_in 392 (by decide +kernel) (by decide +kernel), zGW_in 63 (by decide +kernel) (by decide +kernel)⟩
theorem okX1_join : zOk yX1_join cX1_join 3 none 2 := ⟨⟨by decide +kernel, by decide +kernel⟩, by decide +kernel, by decide, zGW_in 396 (by decide +kernel) (by decide +kernel), zGW_in 65 (by decide +kernel) (by decide +kernel)⟩
theorem okX1_joinFrom : zOk yX1_joinFrom cX1_joinFrom 7 none 5 := ⟨⟨by decide +kernel, by decide +kernel⟩, by decide +kernel, by decide, zGW_in 400 (by decide +kernel) (by decide +kernel), zGW_in 65 (by decide +kernel) (by decide +kernel)⟩
theorem okX1_joinEntries : zOk yX1_joinEntries cX1_joinEntries 11 none 5 := ⟨⟨by decide +kernel, by decide +kernel⟩, by decide +kernel, by decide, zGW_in 404 (by decide +kernel) (by decide +kernel), zGW_in 65 (by decide +kernel) (by decide +kernel)⟩
theorem okJ9_max_7cf53 : zOk yJ9_max_7cf53 cJ9_max_7cf53 2 (some .int) 2 := ⟨⟨by decide +kernel, by decide +kernel⟩, by decide +kernel, by decide, zGW_in 410 (by decide +kernel) (by decide +kernel), zGW_in 70 (by decide +kernel) (by decide +kernel)⟩
theorem okX5_turn : zOk yX5_turn cX5_turn 2 (some .int) 1 := ⟨⟨by decide +kernel, by decide +kernel⟩, by decide +kernel, by decide, zGW_in 414 (by decide +kernel) (by decide +kernel), zGW_in 63 (by decide +kernel) (by decide +kernel)⟩
theorem okX1_transpose : zOk yX1_transpose cX1_transpose 3 none 0 := ⟨⟨by decide +kernel, by decide +kernel⟩, by decide +kernel, by decide, zGW_in 418 (by decide +kernel) (by decide +kernel), zGW_in 65 (by decide +kernel) (by decide +kernel)⟩
theorem okX1_swap : zOk yX1_swap cX1_swap 4 none 3 := ⟨⟨by decide +kernel, by decide +kernel⟩, by decide +kernel, by decide, zGW_in 421 (by decide +kernel) (by decide +kernel), zGW_in 65 (by decide +kernel) (by decide +kernel)⟩
theorem okX1_transposeSorts : zOk yX1_transposeSorts cX1_transposeSorts 5 none 1 := ⟨⟨by decide +kernel, by decide +kernel⟩, by decide +kernel, by decide, zGW_in 425 (by decide +kernel) (by decide +kernel), zGW_in 65 (by decide +kernel) (by decide +kernel)⟩
theorem okX1_trace : zOk yX1_trace cX1_trace 3 (some .int) 0 := ⟨⟨by decide +kernel, by decide +kernel⟩, by decide +kernel, by decide, zGW_in 429 (by decide +kernel) (by decide +kernel), zGW_in 65 (by decide +kernel) (by decide +kernel)⟩
theorem okX5_copy : zOk yX5_copy cX5_copy 3 (some .int) 2 := ⟨⟨by decide +kernel, by decide +kernel⟩, by decide +kernel, by decide, zGW_in 434 (by decide +kernel) (by decide +kernel), zGW_in 63 (by decide +kernel) (by decide +kernel)⟩
theorem okX5_clear : zOk yX5_clear cX5_clear 4 (some .int) 3 := ⟨⟨by decide +kernel, by decide +kernel⟩, by decide +kernel, by decide, zGW_in 438 (by decide +kernel) (by decide +kernel), zGW_in 63 (by decide +kernel) (by decide +kernel)⟩
theorem okX1_emptyBlockOf : zOk yX1_emptyBlockOf cX1_emptyBlockOf 4 (some .int) 2 := ⟨⟨by decide +kernel, by decide +kernel⟩, by decide +kernel, by decide, zGW_in 442 (by decide +kernel) (by decide +kernel), zGW_in 65 (by decide +kernel) (by decide +kernel)⟩
theorem okX1_depthOf : zOk yX1_depthOf cX1_depthOf 4 (some .int) 2 := ⟨⟨by decide +kernel, by decide +kernel⟩, by decide +kernel, by decide, zGW_in 446 (by decide +kernel) (by decide +kernel), zGW_in 65 (by decide +kernel) (by decide +kernel)⟩
theorem okX5_at : zOk yX5_at cX5_at 4 (some .int) 3 := ⟨⟨by decide +kernel, by decide +kernel⟩, by decide +kernel, by decide, zGW_in 451 (by decide +kernel) (by decide +kernel), zGW_in 63 (by decide +kernel) (by decide +kernel)⟩
theorem okX5_block : zOk yX5_block cX5_block 8 (some .int) 4 := ⟨⟨by decide +kernel, by decide +kernel⟩, by decide +kernel, by decide, zGW_in 455 (by decide +kernel) (by decide +kernel), zGW_in 63 (by decide +kernel) (by decide +kernel)⟩
theorem okX5_of : zOk yX5_of cX5_of 4 (some .int) 2 := ⟨⟨by decide +kernel, by decide +kernel⟩, by decide +kernel, by decide, zGW_in 463 (by decide +kernel) (by decide +kernel), zGW_in 63 (by decide +kernel) (by decide +kernel)⟩
theorem okX1_deepest : zOk yX1_deepest cX1_deepest 3 (some .int) 0 := ⟨⟨by decide +kernel, by decide +kernel⟩, by decide +kernel, by decide, zGW_in 467 (by decide +kernel) (by decide +kernel), zGW_in 65 (by decide +kernel) (by decide +kernel)⟩
theorem okX1_blocksOf : zOk yX1_blocksOf cX1_blocksOf 2 (some .int) 1 := ⟨⟨by decide +kernel, by decide +kernel⟩, by decide +kernel, by decide, zGW_in 471 (by decide +kernel) (by decide +kernel), zGW_in 65 (by decide +kernel) (by decide +kernel)⟩
theorem okX1_blocksFrom : zOk yX1_blocksFrom cX1_blocksFrom 7 (some .int) 4 := ⟨⟨by decide +kernel, by decide +kernel⟩, by decide +kernel, by decide, zGW_in 475 (by decide +kernel) (by decide +kernel), zGW_in 65 (by decide +kernel) (by decide +kernel)⟩
theorem okX1_filledEntries : zOk yX1_filledEntries cX1_filledEntries 3 (some .int) 0 := ⟨⟨by decide +kernel, by decide +kernel⟩, by decide +kernel, by decide, zGW_in 479 (by decide +kernel) (by decide +kernel), zGW_in 65 (by decide +kernel) (by decide +kernel)⟩
theorem okX1_greatest : zOk yX1_greatest cX1_greatest 3 (some .int) 0 := ⟨⟨by decide +kernel, by decide +kernel⟩, by decide +kernel, by decide, zGW_in 483 (by decide +kernel) (by decide +kernel), zGW_in 65 (by decide +kernel) (by decide +kernel)⟩
theorem okX1_least : zOk yX1_least cX1_least 3 (some .int) 0 := ⟨⟨by decide +kernel, by decide +kernel⟩, by decide +kernel, by decide, zGW_in 487 (by decide +kernel) (by decide +kernel), zGW_in 65 (by decide +kernel) (by decide +kernel)⟩
theorem okX1_isItsTurned : zOk yX1_isItsTurned cX1_isItsTurned 3 (some .boolean) 0 := ⟨⟨by decide +kernel, by decide +kernel⟩, by decide +kernel, by decide, zGW_in 491 (by decide +kernel) (by decide +kernel), zGW_in 65 (by decide +kernel) (by decide +kernel)⟩
theorem okX5_product : zOk yX5_product cX5_product 8 (some .long) 4 := ⟨⟨by decide +kernel, by decide +kernel⟩, by decide +kernel, by decide, zGW_in 495 (by decide +kernel) (by decide +kernel), zGW_in 63 (by decide +kernel) (by decide +kernel)⟩
theorem okX5_mean : zOk yX5_mean cX5_mean 2 (some .long) 1 := ⟨⟨by decide +kernel, by decide +kernel⟩, by decide +kernel, by decide, zGW_in 500 (by decide +kernel) (by decide +kernel), zGW_in 63 (by decide +kernel) (by decide +kernel)⟩
theorem okX1_sum : zOk yX1_sum cX1_sum 3 (some .int) 0 := ⟨⟨by decide +kernel, by decide +kernel⟩, by decide +kernel, by decide, zGW_in 504 (by decide +kernel) (by decide +kernel), zGW_in 65 (by decide +kernel) (by decide +kernel)⟩
theorem okX5_bitsOfPart : zOk yX5_bitsOfPart cX5_bitsOfPart 12 (some .long) 3 := ⟨⟨by decide +kernel, by decide +kernel⟩, by decide +kernel, by decide, zGW_in 507 (by decide +kernel) (by decide +kernel), zGW_in 63 (by decide +kernel) (by decide +kernel)⟩
theorem okJ9_abs_067f4 : zOk yJ9_abs_067f4 cJ9_abs_067f4 2 (some .long) 1 := ⟨⟨by decide +kernel, by decide +kernel⟩, by decide +kernel, by decide, zGW_in 510 (by decide +kernel) (by decide +kernel), zGW_in 70 (by decide +kernel) (by decide +kernel)⟩
theorem okX5_highestBit : zOk yX5_highestBit cX5_highestBit 3 (some .int) 1 := ⟨⟨by decide +kernel, by decide +kernel⟩, by decide +kernel, by decide, zGW_in 513 (by decide +kernel) (by decide +kernel), zGW_in 63 (by decide +kernel) (by decide +kernel)⟩
theorem okX5_share : zOk yX5_share cX5_share 2 (some .int) 1 := ⟨⟨by decide +kernel, by decide +kernel⟩, by decide +kernel, by decide, zGW_in 518 (by decide +kernel) (by decide +kernel), zGW_in 63 (by decide +kernel) (by decide +kernel)⟩
theorem okX5_count : zOk yX5_count cX5_count 2 (some .int) 1 := ⟨⟨by decide +kernel, by decide +kernel⟩, by decide +kernel, by decide, zGW_in 522 (by decide +kernel) (by decide +kernel), zGW_in 63 (by decide +kernel) (by decide +kernel)⟩
theorem okX4_room : zOk yX4_room cX4_room 3 (some .int) 0 := ⟨⟨by decide +kernel, by decide +kernel⟩, by decide +kernel, by decide, zGW_in 526 (by decide +kernel) (by decide +kernel), zGW_in 64 (by decide +kernel) (by decide +kernel)⟩
theorem okX4_emptyOnes : zOk yX4_emptyOnes cX4_emptyOnes 3 (some .int) 0 := ⟨⟨by decide +kernel, by decide +kernel⟩, by decide +kernel, by decide, zGW_in 531 (by decide +kernel) (by decide +kernel), zGW_in 64 (by decide +kernel) (by decide +kernel)⟩
theorem okX5_far : zOk yX5_far cX5_far 3 (some .int) 2 := ⟨⟨by decide +kernel, by decide +kernel⟩, by decide +kernel, by decide, zGW_in 536 (by decide +kernel) (by decide +kernel), zGW_in 63 (by decide +kernel) (by decide +kernel)⟩
theorem okX1_greatestDifference : zOk yX1_greatestDifference cX1_greatestDifference 4 (some .int) 1 := ⟨⟨by decide +kernel, by decide +kernel⟩, by decide +kernel, by decide, zGW_in 540 (by decide +kernel) (by decide +kernel), zGW_in 65 (by decide +kernel) (by decide +kernel)⟩
theorem okJ9_abs_0f7a4 : zOk yJ9_abs_0f7a4 cJ9_abs_0f7a4 1 (some .int) 1 := ⟨⟨by decide +kernel, by decide +kernel⟩, by decide +kernel, by decide, zGW_in 543 (by decide +kernel) (by decide +kernel), zGW_in 70 (by decide +kernel) (by decide +kernel)⟩
theorem okX5_wouldTake : zOk yX5_wouldTake cX5_wouldTake 2 (some .int) 1 := ⟨⟨by decide +kernel, by decide +kernel⟩, by decide +kernel, by decide, zGW_in 547 (by decide +kernel) (by decide +kernel), zGW_in 63 (by decide +kernel) (by decide +kernel)⟩
theorem okX5_isOne : zOk yX5_isOne cX5_isOne 5 (some .int) 4 := ⟨⟨by decide +kernel, by decide +kernel⟩, by decide +kernel, by decide, zGW_in 551 (by decide +kernel) (by decide +kernel), zGW_in 63 (by decide +kernel) (by decide +kernel)⟩
theorem okX5_isSquareEdge : zOk yX5_isSquareEdge cX5_isSquareEdge 2 (some .boolean) 2 := ⟨⟨by decide +kernel, by decide +kernel⟩, by decide +kernel, by decide, zGW_in 554 (by decide +kernel) (by decide +kernel), zGW_in 63 (by decide +kernel) (by decide +kernel)⟩
theorem okX5_bestTimes : zOk yX5_bestTimes cX5_bestTimes 6 (some .int) 3 := ⟨⟨by decide +kernel, by decide +kernel⟩, by decide +kernel, by decide, zGW_in 559 (by decide +kernel) (by decide +kernel), zGW_in 63 (by decide +kernel) (by decide +kernel)⟩
theorem okX5_countZeros : zOk yX5_countZeros cX5_countZeros 7 none 2 := ⟨⟨by decide +kernel, by decide +kernel⟩, by decide +kernel, by decide, zGW_in 563 (by decide +kernel) (by decide +kernel), zGW_in 63 (by decide +kernel) (by decide +kernel)⟩
theorem okX5_put : zOk yX5_put cX5_put 5 (some .int) 1 := ⟨⟨by decide +kernel, by decide +kernel⟩, by decide +kernel, by decide, zGW_in 567 (by decide +kernel) (by decide +kernel), zGW_in 63 (by decide +kernel) (by decide +kernel)⟩
theorem okX5_signsIn : zOk yX5_signsIn cX5_signsIn 7 (some .int) 1 := ⟨⟨by decide +kernel, by decide +kernel⟩, by decide +kernel, by decide, zGW_in 570 (by decide +kernel) (by decide +kernel), zGW_in 63 (by decide +kernel) (by decide +kernel)⟩
theorem okX2_append : zOk yX2_append cX2_append 2 none 1 := ⟨⟨by decide +kernel, by decide +kernel⟩, by decide +kernel, by decide, zGW_in 577 (by decide +kernel) (by decide +kernel), zGW_in 67 (by decide +kernel) (by decide +kernel)⟩
theorem okX5_wipe : zOk yX5_wipe cX5_wipe 2 (some .int) 0 := ⟨⟨by decide +kernel, by decide +kernel⟩, by decide +kernel, by decide, zGW_in 581 (by decide +kernel) (by decide +kernel), zGW_in 63 (by decide +kernel) (by decide +kernel)⟩
theorem okX5_fault : zOk yX5_fault cX5_fault 1 (some .int) 0 := ⟨⟨by decide +kernel, by decide +kernel⟩, by decide +kernel, by decide, zGW_in 585 (by decide +kernel) (by decide +kernel), zGW_in 63 (by decide +kernel) (by decide +kernel)⟩
theorem okX5_undo : zOk yX5_undo cX5_undo 1 (some .int) 0 := ⟨⟨by decide +kernel, by decide +kernel⟩, by decide +kernel, by decide, zGW_in 589 (by decide +kernel) (by decide +kernel), zGW_in 63 (by decide +kernel) (by decide +kernel)⟩
theorem okX0_takeBack : zOk yX0_takeBack cX0_takeBack 2 none 1 := ⟨⟨by decide +kernel, by decide +kernel⟩, by decide +kernel, by decide, zGW_in 593 (by decide +kernel) (by decide +kernel), zGW_in 66 (by decide +kernel) (by decide +kernel)⟩
theorem okX5_save : zOk yX5_save cX5_save 2 (some .int) 1 := ⟨⟨by decide +kernel, by decide +kernel⟩, by decide +kernel, by decide, zGW_in 597 (by decide +kernel) (by decide +kernel), zGW_in 63 (by decide +kernel) (by decide +kernel)⟩
theorem okX5_isSlot : zOk yX5_isSlot cX5_isSlot 1 (some .boolean) 1 := ⟨⟨by decide +kernel, by decide +kernel⟩, by decide +kernel, by decide, zGW_in 600 (by decide +kernel) (by decide +kernel), zGW_in 63 (by decide +kernel) (by decide +kernel)⟩
theorem okX5_restore : zOk yX5_restore cX5_restore 2 (some .int) 1 := ⟨⟨by decide +kernel, by decide +kernel⟩, by decide +kernel, by decide, zGW_in 605 (by decide +kernel) (by decide +kernel), zGW_in 63 (by decide +kernel) (by decide +kernel)⟩
theorem okX6_init : zOk yX6_init cX6_init 1 none 0 := ⟨⟨by decide +kernel, by decide +kernel⟩, by decide +kernel, by decide, zGW_in 610 (by decide +kernel) (by decide +kernel), zGW_in 69 (by decide +kernel) (by decide +kernel)⟩
theorem okX6_tell : zOk yX6_tell cX6_tell 3 (some .int) 1 := ⟨⟨by decide +kernel, by decide +kernel⟩, by decide +kernel, by decide, zGW_in 671 (by decide +kernel) (by decide +kernel), zGW_in 69 (by decide +kernel) (by decide +kernel)⟩
theorem okX6_isMatrix : zOk yX6_isMatrix cX6_isMatrix 1 (some .boolean) 1 := ⟨⟨by decide +kernel, by decide +kernel⟩, by decide +kernel, by decide, zGW_in 674 (by decide +kernel) (by decide +kernel), zGW_in 69 (by decide +kernel) (by decide +kernel)⟩
theorem okX6_in : zOk yX6_in cX6_in 3 (some .boolean) 3 := ⟨⟨by decide +kernel, by decide +kernel⟩, by decide +kernel, by decide, zGW_in 677 (by decide +kernel) (by decide +kernel), zGW_in 69 (by decide +kernel) (by decide +kernel)⟩
theorem okX6_reads : zOk yX6_reads cX6_reads 2 (some .int) 0 := ⟨⟨by decide +kernel, by decide +kernel⟩, by decide +kernel, by decide, zGW_in 681 (by decide +kernel) (by decide +kernel), zGW_in 69 (by decide +kernel) (by decide +kernel)⟩
theorem okX6_letter : zOk yX6_letter cX6_letter 1 (some .int) 0 := ⟨⟨by decide +kernel, by decide +kernel⟩, by decide +kernel, by decide, zGW_in 685 (by decide +kernel) (by decide +kernel), zGW_in 69 (by decide +kernel) (by decide +kernel)⟩
theorem okX6_goesDown : zOk yX6_goesDown cX6_goesDown 1 none 0 := ⟨⟨by decide +kernel, by decide +kernel⟩, by decide +kernel, by decide, zGW_in 689 (by decide +kernel) (by decide +kernel), zGW_in 69 (by decide +kernel) (by decide +kernel)⟩
theorem okX6_node : zOk yX6_node cX6_node 4 (some .int) 3 := ⟨⟨by decide +kernel, by decide +kernel⟩, by decide +kernel, by decide, zGW_in 692 (by decide +kernel) (by decide +kernel), zGW_in 69 (by decide +kernel) (by decide +kernel)⟩
theorem okX6_readsBlock : zOk yX6_readsBlock cX6_readsBlock 5 none 0 := ⟨⟨by decide +kernel, by decide +kernel⟩, by decide +kernel, by decide, zGW_in 696 (by decide +kernel) (by decide +kernel), zGW_in 69 (by decide +kernel) (by decide +kernel)⟩
theorem okX6_sizeAt : zOk yX6_sizeAt cX6_sizeAt 1 (some .int) 1 := ⟨⟨by decide +kernel, by decide +kernel⟩, by decide +kernel, by decide, zGW_in 699 (by decide +kernel) (by decide +kernel), zGW_in 69 (by decide +kernel) (by decide +kernel)⟩
theorem okX6_laysRead : zOk yX6_laysRead cX6_laysRead 5 none 1 := ⟨⟨by decide +kernel, by decide +kernel⟩, by decide +kernel, by decide, zGW_in 703 (by decide +kernel) (by decide +kernel), zGW_in 69 (by decide +kernel) (by decide +kernel)⟩
theorem okX6_value : zOk yX6_value cX6_value 3 (some .int) 0 := ⟨⟨by decide +kernel, by decide +kernel⟩, by decide +kernel, by decide, zGW_in 707 (by decide +kernel) (by decide +kernel), zGW_in 69 (by decide +kernel) (by decide +kernel)⟩
theorem okX6_number : zOk yX6_number cX6_number 2 (some .int) 0 := ⟨⟨by decide +kernel, by decide +kernel⟩, by decide +kernel, by decide, zGW_in 711 (by decide +kernel) (by decide +kernel), zGW_in 69 (by decide +kernel) (by decide +kernel)⟩
theorem okX6_keepsValues : zOk yX6_keepsValues cX6_keepsValues 4 none 2 := ⟨⟨by decide +kernel, by decide +kernel⟩, by decide +kernel, by decide, zGW_in 715 (by decide +kernel) (by decide +kernel), zGW_in 69 (by decide +kernel) (by decide +kernel)⟩
theorem okX6_readsValues : zOk yX6_readsValues cX6_readsValues 5 none 1 := ⟨⟨by decide +kernel, by decide +kernel⟩, by decide +kernel, by decide, zGW_in 719 (by decide +kernel) (by decide +kernel), zGW_in 69 (by decide +kernel) (by decide +kernel)⟩
theorem okX6_wants : zOk yX6_wants cX6_wants 2 none 1 := ⟨⟨by decide +kernel, by decide +kernel⟩, by decide +kernel, by decide, zGW_in 723 (by decide +kernel) (by decide +kernel), zGW_in 69 (by decide +kernel) (by decide +kernel)⟩
theorem okX6_goesOn : zOk yX6_goesOn cX6_goesOn 1 (some .boolean) 0 := ⟨⟨by decide +kernel, by decide +kernel⟩, by decide +kernel, by decide, zGW_in 727 (by decide +kernel) (by decide +kernel), zGW_in 69 (by decide +kernel) (by decide +kernel)⟩
theorem okX6_counts : zOk yX6_counts cX6_counts 1 none 0 := ⟨⟨by decide +kernel, by decide +kernel⟩, by decide +kernel, by decide, zGW_in 731 (by decide +kernel) (by decide +kernel), zGW_in 69 (by decide +kernel) (by decide +kernel)⟩
theorem okX6_records : zOk yX6_records cX6_records 2 none 0 := ⟨⟨by decide +kernel, by decide +kernel⟩, by decide +kernel, by decide, zGW_in 735 (by decide +kernel) (by decide +kernel), zGW_in 69 (by decide +kernel) (by decide +kernel)⟩
theorem okX6_room : zOk yX6_room cX6_room 2 (some .int) 1 := ⟨⟨by decide +kernel, by decide +kernel⟩, by decide +kernel, by decide, zGW_in 739 (by decide +kernel) (by decide +kernel), zGW_in 69 (by decide +kernel) (by decide +kernel)⟩
theorem okX6_roomFrom : zOk yX6_roomFrom cX6_roomFrom 11 (some .int) 4 := ⟨⟨by decide +kernel, by decide +kernel⟩, by decide +kernel, by decide, zGW_in 743 (by decide +kernel) (by decide +kernel), zGW_in 69 (by decide +kernel) (by decide +kernel)⟩
theorem okX6_isThere : zOk yX6_isThere cX6_isThere 7 (some .boolean) 4 := ⟨⟨by decide +kernel, by decide +kernel⟩, by decide +kernel, by decide, zGW_in 747 (by decide +kernel) (by decide +kernel), zGW_in 69 (by decide +kernel) (by decide +kernel)⟩
theorem okX6_sort : zOk yX6_sort cX6_sort 5 (some .int) 4 := ⟨⟨by decide +kernel, by decide +kernel⟩, by decide +kernel, by decide, zGW_in 751 (by decide +kernel) (by decide +kernel), zGW_in 69 (by decide +kernel) (by decide +kernel)⟩
theorem okX6_roomOf : zOk yX6_roomOf cX6_roomOf 2 (some .int) 2 := ⟨⟨by decide +kernel, by decide +kernel⟩, by decide +kernel, by decide, zGW_in 754 (by decide +kernel) (by decide +kernel), zGW_in 69 (by decide +kernel) (by decide +kernel)⟩
theorem okX6_entry : zOk yX6_entry cX6_entry 6 (some .int) 4 := ⟨⟨by decide +kernel, by decide +kernel⟩, by decide +kernel, by decide, zGW_in 758 (by decide +kernel) (by decide +kernel), zGW_in 69 (by decide +kernel) (by decide +kernel)⟩
theorem okX6_isPlace : zOk yX6_isPlace cX6_isPlace 2 (some .boolean) 2 := ⟨⟨by decide +kernel, by decide +kernel⟩, by decide +kernel, by decide, zGW_in 761 (by decide +kernel) (by decide +kernel), zGW_in 69 (by decide +kernel) (by decide +kernel)⟩
theorem okX6_cuts : zOk yX6_cuts cX6_cuts 7 none 4 := ⟨⟨by decide +kernel, by decide +kernel⟩, by decide +kernel, by decide, zGW_in 767 (by decide +kernel) (by decide +kernel), zGW_in 69 (by decide +kernel) (by decide +kernel)⟩
theorem okX6_sorts : zOk yX6_sorts cX6_sorts 6 none 5 := ⟨⟨by decide +kernel, by decide +kernel⟩, by decide +kernel, by decide, zGW_in 771 (by decide +kernel) (by decide +kernel), zGW_in 69 (by decide +kernel) (by decide +kernel)⟩
theorem okX6_get : zOk yX6_get cX6_get 4 (some .int) 3 := ⟨⟨by decide +kernel, by decide +kernel⟩, by decide +kernel, by decide, zGW_in 775 (by decide +kernel) (by decide +kernel), zGW_in 69 (by decide +kernel) (by decide +kernel)⟩
theorem okX6_lay : zOk yX6_lay cX6_lay 5 none 4 := ⟨⟨by decide +kernel, by decide +kernel⟩, by decide +kernel, by decide, zGW_in 779 (by decide +kernel) (by decide +kernel), zGW_in 69 (by decide +kernel) (by decide +kernel)⟩
theorem okX6_shrink : zOk yX6_shrink cX6_shrink 3 (some .int) 1 := ⟨⟨by decide +kernel, by decide +kernel⟩, by decide +kernel, by decide, zGW_in 783 (by decide +kernel) (by decide +kernel), zGW_in 69 (by decide +kernel) (by decide +kernel)⟩
theorem okX6_shrinks : zOk yX6_shrinks cX6_shrinks 5 none 1 := ⟨⟨by decide +kernel, by decide +kernel⟩, by decide +kernel, by decide, zGW_in 787 (by decide +kernel) (by decide +kernel), zGW_in 69 (by decide +kernel) (by decide +kernel)⟩
theorem okX6_shrinksBlock : zOk yX6_shrinksBlock cX6_shrinksBlock 9 none 4 := ⟨⟨by decide +kernel, by decide +kernel⟩, by decide +kernel, by decide, zGW_in 791 (by decide +kernel) (by decide +kernel), zGW_in 69 (by decide +kernel) (by decide +kernel)⟩
theorem okX6_oneness : zOk yX6_oneness cX6_oneness 12 (some .int) 4 := ⟨⟨by decide +kernel, by decide +kernel⟩, by decide +kernel, by decide, zGW_in 795 (by decide +kernel) (by decide +kernel), zGW_in 69 (by decide +kernel) (by decide +kernel)⟩
theorem okX6_firstRow : zOk yX6_firstRow cX6_firstRow 6 (some .int) 4 := ⟨⟨by decide +kernel, by decide +kernel⟩, by decide +kernel, by decide, zGW_in 799 (by decide +kernel) (by decide +kernel), zGW_in 69 (by decide +kernel) (by decide +kernel)⟩
theorem okX6_firstColumn : zOk yX6_firstColumn cX6_firstColumn 6 (some .int) 4 := ⟨⟨by decide +kernel, by decide +kernel⟩, by decide +kernel, by decide, zGW_in 803 (by decide +kernel) (by decide +kernel), zGW_in 69 (by decide +kernel) (by decide +kernel)⟩
theorem okX6_areEmpty : zOk yX6_areEmpty cX6_areEmpty 7 (some .boolean) 4 := ⟨⟨by decide +kernel, by decide +kernel⟩, by decide +kernel, by decide, zGW_in 807 (by decide +kernel) (by decide +kernel), zGW_in 69 (by decide +kernel) (by decide +kernel)⟩
theorem okX6_add : zOk yX6_add cX6_add 7 (some .int) 3 := ⟨⟨by decide +kernel, by decide +kernel⟩, by decide +kernel, by decide, zGW_in 811 (by decide +kernel) (by decide +kernel), zGW_in 69 (by decide +kernel) (by decide +kernel)⟩
theorem okX6_addsBlock : zOk yX6_addsBlock cX6_addsBlock 9 none 6 := ⟨⟨by decide +kernel, by decide +kernel⟩, by decide +kernel, by decide, zGW_in 815 (by decide +kernel) (by decide +kernel), zGW_in 69 (by decide +kernel) (by decide +kernel)⟩
theorem okX6_addsSquare : zOk yX6_addsSquare cX6_addsSquare 10 none 6 := ⟨⟨by decide +kernel, by decide +kernel⟩, by decide +kernel, by decide, zGW_in 819 (by decide +kernel) (by decide +kernel), zGW_in 69 (by decide +kernel) (by decide +kernel)⟩
theorem okX6_bounded : zOk yX6_bounded cX6_bounded 1 (some .int) 1 := ⟨⟨by decide +kernel, by decide +kernel⟩, by decide +kernel, by decide, zGW_in 822 (by decide +kernel) (by decide +kernel), zGW_in 69 (by decide +kernel) (by decide +kernel)⟩
theorem okX6_turn : zOk yX6_turn cX6_turn 5 (some .int) 1 := ⟨⟨by decide +kernel, by decide +kernel⟩, by decide +kernel, by decide, zGW_in 826 (by decide +kernel) (by decide +kernel), zGW_in 69 (by decide +kernel) (by decide +kernel)⟩
theorem okX6_swaps : zOk yX6_swaps cX6_swaps 5 none 3 := ⟨⟨by decide +kernel, by decide +kernel⟩, by decide +kernel, by decide, zGW_in 830 (by decide +kernel) (by decide +kernel), zGW_in 69 (by decide +kernel) (by decide +kernel)⟩
theorem okX6_trace : zOk yX6_trace cX6_trace 4 (some .int) 1 := ⟨⟨by decide +kernel, by decide +kernel⟩, by decide +kernel, by decide, zGW_in 834 (by decide +kernel) (by decide +kernel), zGW_in 69 (by decide +kernel) (by decide +kernel)⟩
theorem okX6_copy : zOk yX6_copy cX6_copy 4 (some .int) 2 := ⟨⟨by decide +kernel, by decide +kernel⟩, by decide +kernel, by decide, zGW_in 839 (by decide +kernel) (by decide +kernel), zGW_in 69 (by decide +kernel) (by decide +kernel)⟩
theorem okX6_clear : zOk yX6_clear cX6_clear 7 (some .int) 3 := ⟨⟨by decide +kernel, by decide +kernel⟩, by decide +kernel, by decide, zGW_in 843 (by decide +kernel) (by decide +kernel), zGW_in 69 (by decide +kernel) (by decide +kernel)⟩
theorem okX6_depthAt : zOk yX6_depthAt cX6_depthAt 5 (some .int) 3 := ⟨⟨by decide +kernel, by decide +kernel⟩, by decide +kernel, by decide, zGW_in 847 (by decide +kernel) (by decide +kernel), zGW_in 69 (by decide +kernel) (by decide +kernel)⟩
theorem okX6_at : zOk yX6_at cX6_at 4 (some .int) 3 := ⟨⟨by decide +kernel, by decide +kernel⟩, by decide +kernel, by decide, zGW_in 851 (by decide +kernel) (by decide +kernel), zGW_in 69 (by decide +kernel) (by decide +kernel)⟩
theorem okX6_block : zOk yX6_block cX6_block 8 (some .int) 4 := ⟨⟨by decide +kernel, by decide +kernel⟩, by decide +kernel, by decide, zGW_in 855 (by decide +kernel) (by decide +kernel), zGW_in 69 (by decide +kernel) (by decide +kernel)⟩
theorem okX6_of : zOk yX6_of cX6_of 3 (some .int) 2 := ⟨⟨by decide +kernel, by decide +kernel⟩, by decide +kernel, by decide, zGW_in 859 (by decide +kernel) (by decide +kernel), zGW_in 69 (by decide +kernel) (by decide +kernel)⟩
theorem okX6_overBlocks : zOk yX6_overBlocks cX6_overBlocks 8 (some .int) 2 := ⟨⟨by decide +kernel, by decide +kernel⟩, by decide +kernel, by decide, zGW_in 863 (by decide +kernel) (by decide +kernel), zGW_in 69 (by decide +kernel) (by decide +kernel)⟩
theorem okX6_overEntries : zOk yX6_overEntries cX6_overEntries 9 (some .int) 2 := ⟨⟨by decide +kernel, by decide +kernel⟩, by decide +kernel, by decide, zGW_in 867 (by decide +kernel) (by decide +kernel), zGW_in 69 (by decide +kernel) (by decide +kernel)⟩
theorem okX6_product : zOk yX6_product cX6_product 8 (some .long) 4 := ⟨⟨by decide +kernel, by decide +kernel⟩, by decide +kernel, by decide, zGW_in 871 (by decide +kernel) (by decide +kernel), zGW_in 69 (by decide +kernel) (by decide +kernel)⟩
theorem okX6_mean : zOk yX6_mean cX6_mean 4 (some .long) 1 := ⟨⟨by decide +kernel, by decide +kernel⟩, by decide +kernel, by decide, zGW_in 876 (by decide +kernel) (by decide +kernel), zGW_in 69 (by decide +kernel) (by decide +kernel)⟩
theorem okJxe99ae_doubleToLongBits_ccdee : zOk yJxe99ae_doubleToLongBits_ccdee cJxe99ae_doubleToLongBits_ccdee 2 (some .long) 1 := ⟨⟨by decide +kernel, by decide +kernel⟩, by decide +kernel, by decide, zGW_in 880 (by decide +kernel) (by decide +kernel), zGW_in 72 (by decide +kernel) (by decide +kernel)⟩
theorem okJxe99ae_isNaN_b9ae7 : zOk yJxe99ae_isNaN_b9ae7 cJxe99ae_isNaN_b9ae7 2 (some .boolean) 1 := ⟨⟨by decide +kernel, by decide +kernel⟩, by decide +kernel, by decide, zGW_in 883 (by decide +kernel) (by decide +kernel), zGW_in 72 (by decide +kernel) (by decide +kernel)⟩
theorem okX6_share : zOk yX6_share cX6_share 2 (some .int) 1 := ⟨⟨by decide +kernel, by decide +kernel⟩, by decide +kernel, by decide, zGW_in 891 (by decide +kernel) (by decide +kernel), zGW_in 69 (by decide +kernel) (by decide +kernel)⟩
theorem okJxf58ca_floatToIntBits_5c35a : zOk yJxf58ca_floatToIntBits_5c35a cJxf58ca_floatToIntBits_5c35a 1 (some .int) 1 := ⟨⟨by decide +kernel, by decide +kernel⟩, by decide +kernel, by decide, zGW_in 895 (by decide +kernel) (by decide +kernel), zGW_in 73 (by decide +kernel) (by decide +kernel)⟩
theorem okJxf58ca_isNaN_12338 : zOk yJxf58ca_isNaN_12338 cJxf58ca_isNaN_12338 1 (some .boolean) 1 := ⟨⟨by decide +kernel, by decide +kernel⟩, by decide +kernel, by decide, zGW_in 898 (by decide +kernel) (by decide +kernel), zGW_in 73 (by decide +kernel) (by decide +kernel)⟩
theorem okX6_count : zOk yX6_count cX6_count 2 (some .int) 1 := ⟨⟨by decide +kernel, by decide +kernel⟩, by decide +kernel, by decide, zGW_in 906 (by decide +kernel) (by decide +kernel), zGW_in 69 (by decide +kernel) (by decide +kernel)⟩
theorem okX6_allRoom : zOk yX6_allRoom cX6_allRoom 3 (some .int) 0 := ⟨⟨by decide +kernel, by decide +kernel⟩, by decide +kernel, by decide, zGW_in 910 (by decide +kernel) (by decide +kernel), zGW_in 69 (by decide +kernel) (by decide +kernel)⟩
theorem okX6_emptyOnes : zOk yX6_emptyOnes cX6_emptyOnes 3 (some .int) 0 := ⟨⟨by decide +kernel, by decide +kernel⟩, by decide +kernel, by decide, zGW_in 914 (by decide +kernel) (by decide +kernel), zGW_in 69 (by decide +kernel) (by decide +kernel)⟩
theorem okX6_far : zOk yX6_far cX6_far 6 (some .int) 2 := ⟨⟨by decide +kernel, by decide +kernel⟩, by decide +kernel, by decide, zGW_in 918 (by decide +kernel) (by decide +kernel), zGW_in 69 (by decide +kernel) (by decide +kernel)⟩
theorem okX6_wouldTake : zOk yX6_wouldTake cX6_wouldTake 3 (some .int) 1 := ⟨⟨by decide +kernel, by decide +kernel⟩, by decide +kernel, by decide, zGW_in 922 (by decide +kernel) (by decide +kernel), zGW_in 69 (by decide +kernel) (by decide +kernel)⟩
theorem okX6_putAside : zOk yX6_putAside cX6_putAside 2 none 0 := ⟨⟨by decide +kernel, by decide +kernel⟩, by decide +kernel, by decide, zGW_in 926 (by decide +kernel) (by decide +kernel), zGW_in 69 (by decide +kernel) (by decide +kernel)⟩
theorem okX6_takeBack : zOk yX6_takeBack cX6_takeBack 2 none 0 := ⟨⟨by decide +kernel, by decide +kernel⟩, by decide +kernel, by decide, zGW_in 930 (by decide +kernel) (by decide +kernel), zGW_in 69 (by decide +kernel) (by decide +kernel)⟩
theorem okX6_isOne : zOk yX6_isOne cX6_isOne 5 (some .int) 4 := ⟨⟨by decide +kernel, by decide +kernel⟩, by decide +kernel, by decide, zGW_in 934 (by decide +kernel) (by decide +kernel), zGW_in 69 (by decide +kernel) (by decide +kernel)⟩
theorem okX6_bestTimes : zOk yX6_bestTimes cX6_bestTimes 8 (some .int) 3 := ⟨⟨by decide +kernel, by decide +kernel⟩, by decide +kernel, by decide, zGW_in 938 (by decide +kernel) (by decide +kernel), zGW_in 69 (by decide +kernel) (by decide +kernel)⟩
theorem okX6_zerosBy : zOk yX6_zerosBy cX6_zerosBy 6 (some .int) 3 := ⟨⟨by decide +kernel, by decide +kernel⟩, by decide +kernel, by decide, zGW_in 942 (by decide +kernel) (by decide +kernel), zGW_in 69 (by decide +kernel) (by decide +kernel)⟩
theorem okX6_put : zOk yX6_put cX6_put 8 (some .int) 1 := ⟨⟨by decide +kernel, by decide +kernel⟩, by decide +kernel, by decide, zGW_in 946 (by decide +kernel) (by decide +kernel), zGW_in 69 (by decide +kernel) (by decide +kernel)⟩
theorem okX6_wipe : zOk yX6_wipe cX6_wipe 2 (some .int) 0 := ⟨⟨by decide +kernel, by decide +kernel⟩, by decide +kernel, by decide, zGW_in 951 (by decide +kernel) (by decide +kernel), zGW_in 69 (by decide +kernel) (by decide +kernel)⟩
theorem okX6_fault : zOk yX6_fault cX6_fault 1 (some .int) 0 := ⟨⟨by decide +kernel, by decide +kernel⟩, by decide +kernel, by decide, zGW_in 955 (by decide +kernel) (by decide +kernel), zGW_in 69 (by decide +kernel) (by decide +kernel)⟩
theorem okX6_undo : zOk yX6_undo cX6_undo 2 (some .int) 0 := ⟨⟨by decide +kernel, by decide +kernel⟩, by decide +kernel, by decide, zGW_in 959 (by decide +kernel) (by decide +kernel), zGW_in 69 (by decide +kernel) (by decide +kernel)⟩
theorem okX6_save : zOk yX6_save cX6_save 3 (some .int) 1 := ⟨⟨by decide +kernel, by decide +kernel⟩, by decide +kernel, by decide, zGW_in 963 (by decide +kernel) (by decide +kernel), zGW_in 69 (by decide +kernel) (by decide +kernel)⟩
theorem okX6_restore : zOk yX6_restore cX6_restore 3 (some .int) 1 := ⟨⟨by decide +kernel, by decide +kernel⟩, by decide +kernel, by decide, zGW_in 967 (by decide +kernel) (by decide +kernel), zGW_in 69 (by decide +kernel) (by decide +kernel)⟩
theorem klL_7 : Cond.classLink RL 7 RX5 ∈ zGW := zGW_in 74 (by decide +kernel) (by decide +kernel)
theorem lkL_9 : zLi RL 9 yX5_init := ⟨zGW_in 76 (by decide +kernel) (by decide +kernel), zGW_in 77 (by decide +kernel) (by decide +kernel), rfl⟩
theorem loX5_3 : Cond.methodLink RX5 3 objectInit ∈ zGW ∧ Cond.instanceMethod objectInit ∈ zGW ∧ Cond.code objectInit ⟨#[0xb1]⟩ 1 none ∈ zGW := ⟨zGW_in 79 (by decide +kernel) (by decide +kernel), zGW_in 80 (by decide +kernel) (by decide +kernel), zGW_in 81 (by decide +kernel) (by decide +kernel)⟩
theorem klX5_9 : Cond.classLink RX5 9 RX4 ∈ zGW := zGW_in 82 (by decide +kernel) (by decide +kernel)
theorem lkX5_11 : zLi RX5 11 yX4_init := ⟨zGW_in 84 (by decide +kernel) (by decide +kernel), zGW_in 85 (by decide +kernel) (by decide +kernel), rfl⟩
theorem loX4_3 : Cond.methodLink RX4 3 objectInit ∈ zGW ∧ Cond.instanceMethod objectInit ∈ zGW ∧ Cond.code objectInit ⟨#[0xb1]⟩ 1 none ∈ zGW := ⟨zGW_in 87 (by decide +kernel) (by decide +kernel), zGW_in 80 (by decide +kernel) (by decide +kernel), zGW_in 81 (by decide +kernel) (by decide +kernel)⟩
theorem klX4_9 : Cond.classLink RX4 9 RX1 ∈ zGW := zGW_in 88 (by decide +kernel) (by decide +kernel)
theorem nkX4_21 : zNi RX4 21 yX1_init := ⟨zNW_in 91 (by decide +kernel) (by decide +kernel), zGW_in 92 (by decide +kernel) (by decide +kernel), rfl⟩
theorem loX1_3 : Cond.methodLink RX1 3 objectInit ∈ zGW ∧ Cond.instanceMethod objectInit ∈ zGW ∧ Cond.code objectInit ⟨#[0xb1]⟩ 1 none ∈ zGW := ⟨zGW_in 94 (by decide +kernel) (by decide +kernel), zGW_in 80 (by decide +kernel) (by decide +kernel), zGW_in 81 (by decide +kernel) (by decide +kernel)⟩
theorem lfX1_9 : zFl RX1 9 1 0 := ⟨RX1, TX1, 2, rfl, by decide, zGW_in 95 (by decide +kernel) (by decide +kernel), inX1⟩
theorem nfX5_227 : zFn RX5 227 1 0 := ⟨RX1, TX1, 2, rfl, by decide, zNW_in 96 (by decide +kernel) (by decide +kernel), inX1⟩
theorem lfX1_15 : zFl RX1 15 1 1 := ⟨RX1, TX1, 2, rfl, by decide, zGW_in 97 (by decide +kernel) (by decide +kernel), inX1⟩
theorem lfX4_11 : zFl RX4 11 4 0 := ⟨RX4, TX4, 2, rfl, by decide, zGW_in 104 (by decide +kernel) (by decide +kernel), inX4⟩
theorem nfX5_59 : zFn RX5 59 4 0 := ⟨RX4, TX4, 2, rfl, by decide, zNW_in 105 (by decide +kernel) (by decide +kernel), inX4⟩
theorem lfX4_17 : zFl RX4 17 4 1 := ⟨RX4, TX4, 2, rfl, by decide, zGW_in 106 (by decide +kernel) (by decide +kernel), inX4⟩
theorem nfX5_160 : zFn RX5 160 4 1 := ⟨RX4, TX4, 2, rfl, by decide, zNW_in 107 (by decide +kernel) (by decide +kernel), inX4⟩
theorem klX5_16 : Cond.classLink RX5 16 RX0 ∈ zGW := zGW_in 113 (by decide +kernel) (by decide +kernel)
theorem lkX5_18 : zLi RX5 18 yX0_init := ⟨zGW_in 115 (by decide +kernel) (by decide +kernel), zGW_in 116 (by decide +kernel) (by decide +kernel), rfl⟩
theorem loX0_3 : Cond.methodLink RX0 3 objectInit ∈ zGW ∧ Cond.instanceMethod objectInit ∈ zGW ∧ Cond.code objectInit ⟨#[0xb1]⟩ 1 none ∈ zGW := ⟨zGW_in 118 (by decide +kernel) (by decide +kernel), zGW_in 80 (by decide +kernel) (by decide +kernel), zGW_in 81 (by decide +kernel) (by decide +kernel)⟩
theorem klX0_9 : Cond.classLink RX0 9 RX4 ∈ zGW := zGW_in 119 (by decide +kernel) (by decide +kernel)
theorem lkX0_24 : zLi RX0 24 yX4_init := ⟨zGW_in 121 (by decide +kernel) (by decide +kernel), zGW_in 85 (by decide +kernel) (by decide +kernel), rfl⟩
theorem lfX0_11 : zFl RX0 11 0 0 := ⟨RX0, TX0, 3, rfl, by decide, zGW_in 122 (by decide +kernel) (by decide +kernel), inX0⟩
theorem lfX0_17 : zFl RX0 17 0 1 := ⟨RX0, TX0, 3, rfl, by decide, zGW_in 123 (by decide +kernel) (by decide +kernel), inX0⟩
theorem lfX0_21 : zFl RX0 21 0 2 := ⟨RX0, TX0, 3, rfl, by decide, zGW_in 124 (by decide +kernel) (by decide +kernel), inX0⟩
theorem nfX5_163 : zFn RX5 163 0 2 := ⟨RX0, TX0, 3, rfl, by decide, zNW_in 125 (by decide +kernel) (by decide +kernel), inX0⟩
theorem klX5_23 : Cond.classLink RX5 23 RX3 ∈ zGW := zGW_in 133 (by decide +kernel) (by decide +kernel)
theorem klX5_29 : Cond.classLink RX5 29 RX2 ∈ zGW := zGW_in 135 (by decide +kernel) (by decide +kernel)
theorem nkX5_31 : zNi RX5 31 yX2_init := ⟨zNW_in 137 (by decide +kernel) (by decide +kernel), zGW_in 138 (by decide +kernel) (by decide +kernel), rfl⟩
theorem loX2_3 : Cond.methodLink RX2 3 objectInit ∈ zGW ∧ Cond.instanceMethod objectInit ∈ zGW ∧ Cond.code objectInit ⟨#[0xb1]⟩ 1 none ∈ zGW := ⟨zGW_in 140 (by decide +kernel) (by decide +kernel), zGW_in 80 (by decide +kernel) (by decide +kernel), zGW_in 81 (by decide +kernel) (by decide +kernel)⟩
theorem klX2_19 : Cond.classLink RX2 19 RX1 ∈ zGW := zGW_in 141 (by decide +kernel) (by decide +kernel)
theorem nkX2_21 : zNi RX2 21 yX1_init := ⟨zNW_in 142 (by decide +kernel) (by decide +kernel), zGW_in 92 (by decide +kernel) (by decide +kernel), rfl⟩
theorem lfX2_9 : zFl RX2 9 2 0 := ⟨RX2, TX2, 8, rfl, by decide, zGW_in 143 (by decide +kernel) (by decide +kernel), inX2⟩
theorem lfX2_15 : zFl RX2 15 2 1 := ⟨RX2, TX2, 8, rfl, by decide, zGW_in 144 (by decide +kernel) (by decide +kernel), inX2⟩
theorem nfX5_70 : zFn RX5 70 2 1 := ⟨RX2, TX2, 8, rfl, by decide, zNW_in 145 (by decide +kernel) (by decide +kernel), inX2⟩
theorem lfX2_22 : zFl RX2 22 2 2 := ⟨RX2, TX2, 8, rfl, by decide, zGW_in 146 (by decide +kernel) (by decide +kernel), inX2⟩
theorem nfX5_63 : zFn RX5 63 2 2 := ⟨RX2, TX2, 8, rfl, by decide, zNW_in 147 (by decide +kernel) (by decide +kernel), inX2⟩
theorem lfX2_26 : zFl RX2 26 2 3 := ⟨RX2, TX2, 8, rfl, by decide, zGW_in 148 (by decide +kernel) (by decide +kernel), inX2⟩
theorem lfX2_30 : zFl RX2 30 2 4 := ⟨RX2, TX2, 8, rfl, by decide, zGW_in 149 (by decide +kernel) (by decide +kernel), inX2⟩
theorem lfX2_33 : zFl RX2 33 2 5 := ⟨RX2, TX2, 8, rfl, by decide, zGW_in 150 (by decide +kernel) (by decide +kernel), inX2⟩
theorem lfX2_36 : zFl RX2 36 2 6 := ⟨RX2, TX2, 8, rfl, by decide, zGW_in 151 (by decide +kernel) (by decide +kernel), inX2⟩
theorem nfX5_188 : zFn RX5 188 2 6 := ⟨RX2, TX2, 8, rfl, by decide, zNW_in 152 (by decide +kernel) (by decide +kernel), inX2⟩
theorem lfX2_39 : zFl RX2 39 2 7 := ⟨RX2, TX2, 8, rfl, by decide, zGW_in 153 (by decide +kernel) (by decide +kernel), inX2⟩
theorem klX5_36 : Cond.classLink RX5 36 RX1 ∈ zGW := zGW_in 172 (by decide +kernel) (by decide +kernel)
theorem nkX5_38 : zNi RX5 38 yX1_init := ⟨zNW_in 173 (by decide +kernel) (by decide +kernel), zGW_in 92 (by decide +kernel) (by decide +kernel), rfl⟩
theorem nkX5_47 : zNi RX5 47 yX3_init := ⟨zNW_in 175 (by decide +kernel) (by decide +kernel), zGW_in 176 (by decide +kernel) (by decide +kernel), rfl⟩
theorem loX3_1 : Cond.methodLink RX3 1 objectInit ∈ zGW ∧ Cond.instanceMethod objectInit ∈ zGW ∧ Cond.code objectInit ⟨#[0xb1]⟩ 1 none ∈ zGW := ⟨zGW_in 178 (by decide +kernel) (by decide +kernel), zGW_in 80 (by decide +kernel) (by decide +kernel), zGW_in 81 (by decide +kernel) (by decide +kernel)⟩
theorem klX3_7 : Cond.classLink RX3 7 RX4 ∈ zGW := zGW_in 179 (by decide +kernel) (by decide +kernel)
theorem lkX3_9 : zLi RX3 9 yX4_init := ⟨zGW_in 180 (by decide +kernel) (by decide +kernel), zGW_in 85 (by decide +kernel) (by decide +kernel), rfl⟩
theorem lfX3_10 : zFl RX3 10 3 0 := ⟨RX3, TX3, 2, rfl, by decide, zGW_in 181 (by decide +kernel) (by decide +kernel), inX3⟩
theorem nfX5_198 : zFn RX5 198 3 0 := ⟨RX3, TX3, 2, rfl, by decide, zNW_in 182 (by decide +kernel) (by decide +kernel), inX3⟩
theorem lfX3_16 : zFl RX3 16 3 1 := ⟨RX3, TX3, 2, rfl, by decide, zGW_in 183 (by decide +kernel) (by decide +kernel), inX3⟩
theorem nfX5_203 : zFn RX5 203 3 1 := ⟨RX3, TX3, 2, rfl, by decide, zNW_in 184 (by decide +kernel) (by decide +kernel), inX3⟩
theorem lfX5_12 : zFl RX5 12 5 0 := ⟨RX5, TX5, 6, rfl, by decide, zGW_in 190 (by decide +kernel) (by decide +kernel), inX5⟩
theorem lfX5_19 : zFl RX5 19 5 1 := ⟨RX5, TX5, 6, rfl, by decide, zGW_in 191 (by decide +kernel) (by decide +kernel), inX5⟩
theorem lfX5_25 : zFl RX5 25 5 2 := ⟨RX5, TX5, 6, rfl, by decide, zGW_in 192 (by decide +kernel) (by decide +kernel), inX5⟩
theorem lfX5_32 : zFl RX5 32 5 3 := ⟨RX5, TX5, 6, rfl, by decide, zGW_in 193 (by decide +kernel) (by decide +kernel), inX5⟩
theorem lfX5_39 : zFl RX5 39 5 4 := ⟨RX5, TX5, 6, rfl, by decide, zGW_in 194 (by decide +kernel) (by decide +kernel), inX5⟩
theorem lfX5_43 : zFl RX5 43 5 5 := ⟨RX5, TX5, 6, rfl, by decide, zGW_in 195 (by decide +kernel) (by decide +kernel), inX5⟩
theorem lkL_13 : zLv RL 13 yX5_tell := ⟨zGW_in 209 (by decide +kernel) (by decide +kernel), zGW_in 210 (by decide +kernel) (by decide +kernel), zGW_in 211 (by decide +kernel) (by decide +kernel)⟩
theorem lkX5_48 : zLs RX5 48 yX5_isMatrix := ⟨zGW_in 213 (by decide +kernel) (by decide +kernel), zGW_in 214 (by decide +kernel) (by decide +kernel)⟩
theorem lkX5_52 : zLv RX5 52 yX2_read := ⟨zGW_in 216 (by decide +kernel) (by decide +kernel), zGW_in 217 (by decide +kernel) (by decide +kernel), zGW_in 218 (by decide +kernel) (by decide +kernel)⟩
theorem lkX2_42 : zLv RX2 42 yX2_readBlock := ⟨zGW_in 220 (by decide +kernel) (by decide +kernel), zGW_in 222 (by decide +kernel) (by decide +kernel), zGW_in 0 (by decide +kernel) (by decide +kernel)⟩
theorem lkX2_46 : zLv RX2 46 yX2_passes := ⟨zGW_in 224 (by decide +kernel) (by decide +kernel), zGW_in 226 (by decide +kernel) (by decide +kernel), zGW_in 1 (by decide +kernel) (by decide +kernel)⟩
theorem lkX2_50 : zLv RX2 50 yX1_setEmpty := ⟨zGW_in 228 (by decide +kernel) (by decide +kernel), zGW_in 229 (by decide +kernel) (by decide +kernel), zGW_in 230 (by decide +kernel) (by decide +kernel)⟩
theorem lkX1_71 : zLv RX1 71 yX1_setSort := ⟨zGW_in 232 (by decide +kernel) (by decide +kernel), zGW_in 234 (by decide +kernel) (by decide +kernel), zGW_in 2 (by decide +kernel) (by decide +kernel)⟩
theorem lkX1_32 : zLs RX1 32 yX1_numberOf := ⟨zGW_in 236 (by decide +kernel) (by decide +kernel), zGW_in 237 (by decide +kernel) (by decide +kernel)⟩
theorem nkX1_24 : zNs RX1 24 yX5_sizeAt := ⟨zNW_in 239 (by decide +kernel) (by decide +kernel), zGW_in 240 (by decide +kernel) (by decide +kernel)⟩
theorem lkX1_28 : zLs RX1 28 yX1_cellOf := ⟨zGW_in 242 (by decide +kernel) (by decide +kernel), zGW_in 243 (by decide +kernel) (by decide +kernel)⟩
theorem lkX2_54 : zLv RX2 54 yX2_readSame := ⟨zGW_in 245 (by decide +kernel) (by decide +kernel), zGW_in 247 (by decide +kernel) (by decide +kernel), zGW_in 3 (by decide +kernel) (by decide +kernel)⟩
theorem lkX2_77 : zLv RX2 77 yX2_readValue := ⟨zGW_in 249 (by decide +kernel) (by decide +kernel), zGW_in 251 (by decide +kernel) (by decide +kernel), zGW_in 4 (by decide +kernel) (by decide +kernel)⟩
theorem lkX2_103 : zLv RX2 103 yX2_digit := ⟨zGW_in 253 (by decide +kernel) (by decide +kernel), zGW_in 255 (by decide +kernel) (by decide +kernel), zGW_in 5 (by decide +kernel) (by decide +kernel)⟩
theorem lkX2_81 : zLv RX2 81 yX1_setThin := ⟨zGW_in 257 (by decide +kernel) (by decide +kernel), zGW_in 258 (by decide +kernel) (by decide +kernel), zGW_in 259 (by decide +kernel) (by decide +kernel)⟩
theorem lkX2_57 : zLv RX2 57 yX2_readProduct := ⟨zGW_in 261 (by decide +kernel) (by decide +kernel), zGW_in 263 (by decide +kernel) (by decide +kernel), zGW_in 6 (by decide +kernel) (by decide +kernel)⟩
theorem nkX2_85 : zNs RX2 85 yX5_sizeAt := ⟨zNW_in 265 (by decide +kernel) (by decide +kernel), zGW_in 240 (by decide +kernel) (by decide +kernel)⟩
theorem lkX2_89 : zLv RX2 89 yX2_readValues := ⟨zGW_in 266 (by decide +kernel) (by decide +kernel), zGW_in 268 (by decide +kernel) (by decide +kernel), zGW_in 7 (by decide +kernel) (by decide +kernel)⟩
theorem lmX2_97 : Cond.methodLink RX2 97 Lib.Math.min.name ∈ zGW ∧ Cond.static Lib.Math.min.name ∈ zGW ∧ Cond.initialized "java/lang/Math" ∈ zGW ∧ Cond.code Lib.Math.min.name Lib.Math.min.code 2 (some .int) ∈ zGW := ⟨zGW_in 270 (by decide +kernel) (by decide +kernel), zGW_in 271 (by decide +kernel) (by decide +kernel), zGW_in 70 (by decide +kernel) (by decide +kernel), zGW_in 272 (by decide +kernel) (by decide +kernel)⟩
theorem lkX2_60 : zLv RX2 60 yX2_readFull := ⟨zGW_in 273 (by decide +kernel) (by decide +kernel), zGW_in 275 (by decide +kernel) (by decide +kernel), zGW_in 8 (by decide +kernel) (by decide +kernel)⟩
theorem lkX2_93 : zLv RX2 93 yX1_setFull := ⟨zGW_in 277 (by decide +kernel) (by decide +kernel), zGW_in 278 (by decide +kernel) (by decide +kernel), zGW_in 279 (by decide +kernel) (by decide +kernel)⟩
theorem lkX2_63 : zLv RX2 63 yX2_readParts := ⟨zGW_in 281 (by decide +kernel) (by decide +kernel), zGW_in 283 (by decide +kernel) (by decide +kernel), zGW_in 9 (by decide +kernel) (by decide +kernel)⟩
theorem nkX2_66 : zNv RX2 66 yX1_setSort := ⟨zNW_in 285 (by decide +kernel) (by decide +kernel), zGW_in 234 (by decide +kernel) (by decide +kernel), zGW_in 2 (by decide +kernel) (by decide +kernel)⟩
theorem nkX2_70 : zNs RX2 70 yX1_rowOfPart := ⟨zNW_in 286 (by decide +kernel) (by decide +kernel), zGW_in 287 (by decide +kernel) (by decide +kernel)⟩
theorem nkX2_74 : zNs RX2 74 yX1_columnOfPart := ⟨zNW_in 289 (by decide +kernel) (by decide +kernel), zGW_in 290 (by decide +kernel) (by decide +kernel)⟩
theorem lkX5_56 : zLv RX5 56 yX5_beginChange := ⟨zGW_in 292 (by decide +kernel) (by decide +kernel), zGW_in 294 (by decide +kernel) (by decide +kernel), zGW_in 10 (by decide +kernel) (by decide +kernel)⟩
theorem lkX5_207 : zLv RX5 207 yX0_keep := ⟨zGW_in 296 (by decide +kernel) (by decide +kernel), zGW_in 297 (by decide +kernel) (by decide +kernel), zGW_in 298 (by decide +kernel) (by decide +kernel)⟩
theorem lkX0_25 : zLv RX0 25 yX4_become := ⟨zGW_in 300 (by decide +kernel) (by decide +kernel), zGW_in 301 (by decide +kernel) (by decide +kernel), zGW_in 302 (by decide +kernel) (by decide +kernel)⟩
theorem lkX4_22 : zLv RX4 22 yX1_become := ⟨zGW_in 304 (by decide +kernel) (by decide +kernel), zGW_in 305 (by decide +kernel) (by decide +kernel), zGW_in 306 (by decide +kernel) (by decide +kernel)⟩
theorem laX1_18 : Cond.methodLink RX1 18 arraycopyName ∈ zGW ∧ Cond.native arraycopyName ∈ zGW ∧ Cond.static arraycopyName ∈ zGW ∧ Cond.initialized "java/lang/System" ∈ zGW := ⟨zGW_in 308 (by decide +kernel) (by decide +kernel), zGW_in 310 (by decide +kernel) (by decide +kernel), zGW_in 309 (by decide +kernel) (by decide +kernel), zGW_in 71 (by decide +kernel) (by decide +kernel)⟩
theorem lkX5_66 : zLv RX5 66 yX1_become := ⟨zGW_in 311 (by decide +kernel) (by decide +kernel), zGW_in 305 (by decide +kernel) (by decide +kernel), zGW_in 306 (by decide +kernel) (by decide +kernel)⟩
theorem lkX5_74 : zLv RX5 74 yX1_room := ⟨zGW_in 312 (by decide +kernel) (by decide +kernel), zGW_in 313 (by decide +kernel) (by decide +kernel), zGW_in 314 (by decide +kernel) (by decide +kernel)⟩
theorem lkX1_51 : zLv RX1 51 yX1_roomFrom := ⟨zGW_in 316 (by decide +kernel) (by decide +kernel), zGW_in 318 (by decide +kernel) (by decide +kernel), zGW_in 11 (by decide +kernel) (by decide +kernel)⟩
theorem lkX1_39 : zLv RX1 39 yX1_isCut := ⟨zGW_in 320 (by decide +kernel) (by decide +kernel), zGW_in 322 (by decide +kernel) (by decide +kernel), zGW_in 12 (by decide +kernel) (by decide +kernel)⟩
theorem lkX1_36 : zLv RX1 36 yX1_sortOf := ⟨zGW_in 324 (by decide +kernel) (by decide +kernel), zGW_in 325 (by decide +kernel) (by decide +kernel), zGW_in 326 (by decide +kernel) (by decide +kernel)⟩
theorem nkX1_54 : zNs RX1 54 yX5_roomOfUncut := ⟨zNW_in 328 (by decide +kernel) (by decide +kernel), zGW_in 329 (by decide +kernel) (by decide +kernel)⟩
theorem lkX1_57 : zLs RX1 57 yX1_rowOfPart := ⟨zGW_in 331 (by decide +kernel) (by decide +kernel), zGW_in 287 (by decide +kernel) (by decide +kernel)⟩
theorem lkX1_60 : zLs RX1 60 yX1_columnOfPart := ⟨zGW_in 332 (by decide +kernel) (by decide +kernel), zGW_in 290 (by decide +kernel) (by decide +kernel)⟩
theorem lkL_18 : zLv RL 18 yX5_entry := ⟨zGW_in 333 (by decide +kernel) (by decide +kernel), zGW_in 334 (by decide +kernel) (by decide +kernel), zGW_in 335 (by decide +kernel) (by decide +kernel)⟩
theorem lkX5_78 : zLs RX5 78 yX5_isPlace := ⟨zGW_in 337 (by decide +kernel) (by decide +kernel), zGW_in 338 (by decide +kernel) (by decide +kernel)⟩
theorem kcX5_82 : Cond.constant RX5 82 1000000 ∈ zGW := zGW_in 340 (by decide +kernel) (by decide +kernel)
theorem lkX5_83 : zLs RX5 83 yX5_isWithin := ⟨zGW_in 341 (by decide +kernel) (by decide +kernel), zGW_in 342 (by decide +kernel) (by decide +kernel)⟩
theorem lkX5_87 : zLv RX5 87 yX1_entryAt := ⟨zGW_in 344 (by decide +kernel) (by decide +kernel), zGW_in 345 (by decide +kernel) (by decide +kernel), zGW_in 346 (by decide +kernel) (by decide +kernel)⟩
theorem lkX5_91 : zLv RX5 91 yX1_changeEntry := ⟨zGW_in 348 (by decide +kernel) (by decide +kernel), zGW_in 349 (by decide +kernel) (by decide +kernel), zGW_in 350 (by decide +kernel) (by decide +kernel)⟩
theorem lkX1_67 : zLv RX1 67 yX1_cutBlock := ⟨zGW_in 352 (by decide +kernel) (by decide +kernel), zGW_in 354 (by decide +kernel) (by decide +kernel), zGW_in 13 (by decide +kernel) (by decide +kernel)⟩
theorem nkX1_75 : zNs RX1 75 yX5_firstOf := ⟨zNW_in 356 (by decide +kernel) (by decide +kernel), zGW_in 357 (by decide +kernel) (by decide +kernel)⟩
theorem lkX5_115 : zLs RX5 115 yX5_sizeAt := ⟨zGW_in 359 (by decide +kernel) (by decide +kernel), zGW_in 240 (by decide +kernel) (by decide +kernel)⟩
theorem lkL_23 : zLv RL 23 yX5_shrink := ⟨zGW_in 360 (by decide +kernel) (by decide +kernel), zGW_in 361 (by decide +kernel) (by decide +kernel), zGW_in 362 (by decide +kernel) (by decide +kernel)⟩
theorem lkX5_95 : zLv RX5 95 yX1_makeSmaller := ⟨zGW_in 364 (by decide +kernel) (by decide +kernel), zGW_in 365 (by decide +kernel) (by decide +kernel), zGW_in 366 (by decide +kernel) (by decide +kernel)⟩
theorem lkX1_81 : zLv RX1 81 yX1_makeSmallerFrom := ⟨zGW_in 368 (by decide +kernel) (by decide +kernel), zGW_in 370 (by decide +kernel) (by decide +kernel), zGW_in 14 (by decide +kernel) (by decide +kernel)⟩
theorem lkX1_84 : zLv RX1 84 yX1_makePartsSmaller := ⟨zGW_in 372 (by decide +kernel) (by decide +kernel), zGW_in 374 (by decide +kernel) (by decide +kernel), zGW_in 15 (by decide +kernel) (by decide +kernel)⟩
theorem lkX1_87 : zLv RX1 87 yX1_toldByOne := ⟨zGW_in 376 (by decide +kernel) (by decide +kernel), zGW_in 377 (by decide +kernel) (by decide +kernel), zGW_in 378 (by decide +kernel) (by decide +kernel)⟩
theorem lkX1_90 : zLv RX1 90 yX1_firstFilledRow := ⟨zGW_in 380 (by decide +kernel) (by decide +kernel), zGW_in 382 (by decide +kernel) (by decide +kernel), zGW_in 16 (by decide +kernel) (by decide +kernel)⟩
theorem lkX1_93 : zLv RX1 93 yX1_firstFilledColumn := ⟨zGW_in 384 (by decide +kernel) (by decide +kernel), zGW_in 386 (by decide +kernel) (by decide +kernel), zGW_in 17 (by decide +kernel) (by decide +kernel)⟩
theorem lkX1_96 : zLv RX1 96 yX1_entryAt := ⟨zGW_in 388 (by decide +kernel) (by decide +kernel), zGW_in 345 (by decide +kernel) (by decide +kernel), zGW_in 346 (by decide +kernel) (by decide +kernel)⟩
theorem lkL_27 : zLv RL 27 yX5_add := ⟨zGW_in 389 (by decide +kernel) (by decide +kernel), zGW_in 390 (by decide +kernel) (by decide +kernel), zGW_in 391 (by decide +kernel) (by decide +kernel)⟩
theorem lkX5_98 : zLv RX5 98 yX1_join := ⟨zGW_in 393 (by decide +kernel) (by decide +kernel), zGW_in 394 (by decide +kernel) (by decide +kernel), zGW_in 395 (by decide +kernel) (by decide +kernel)⟩
theorem lkX1_99 : zLv RX1 99 yX1_joinFrom := ⟨zGW_in 397 (by decide +kernel) (by decide +kernel), zGW_in 399 (by decide +kernel) (by decide +kernel), zGW_in 18 (by decide +kernel) (by decide +kernel)⟩
theorem lkX1_103 : zLv RX1 103 yX1_joinEntries := ⟨zGW_in 401 (by decide +kernel) (by decide +kernel), zGW_in 403 (by decide +kernel) (by decide +kernel), zGW_in 19 (by decide +kernel) (by decide +kernel)⟩
theorem kcX1_106 : Cond.constant RX1 106 (-1000000) ∈ zGW := zGW_in 405 (by decide +kernel) (by decide +kernel)
theorem kcX1_107 : Cond.constant RX1 107 1000000 ∈ zGW := zGW_in 406 (by decide +kernel) (by decide +kernel)
theorem lmX1_108 : Cond.methodLink RX1 108 Lib.Math.min.name ∈ zGW ∧ Cond.static Lib.Math.min.name ∈ zGW ∧ Cond.initialized "java/lang/Math" ∈ zGW ∧ Cond.code Lib.Math.min.name Lib.Math.min.code 2 (some .int) ∈ zGW := ⟨zGW_in 407 (by decide +kernel) (by decide +kernel), zGW_in 271 (by decide +kernel) (by decide +kernel), zGW_in 70 (by decide +kernel) (by decide +kernel), zGW_in 272 (by decide +kernel) (by decide +kernel)⟩
theorem lmX1_46 : Cond.methodLink RX1 46 Lib.Math.max.name ∈ zGW ∧ Cond.static Lib.Math.max.name ∈ zGW ∧ Cond.initialized "java/lang/Math" ∈ zGW ∧ Cond.code Lib.Math.max.name Lib.Math.max.code 2 (some .int) ∈ zGW := ⟨zGW_in 408 (by decide +kernel) (by decide +kernel), zGW_in 409 (by decide +kernel) (by decide +kernel), zGW_in 70 (by decide +kernel) (by decide +kernel), zGW_in 410 (by decide +kernel) (by decide +kernel)⟩
theorem lkL_32 : zLv RL 32 yX5_turn := ⟨zGW_in 411 (by decide +kernel) (by decide +kernel), zGW_in 412 (by decide +kernel) (by decide +kernel), zGW_in 413 (by decide +kernel) (by decide +kernel)⟩
theorem lkX5_102 : zLv RX5 102 yX1_transpose := ⟨zGW_in 415 (by decide +kernel) (by decide +kernel), zGW_in 416 (by decide +kernel) (by decide +kernel), zGW_in 417 (by decide +kernel) (by decide +kernel)⟩
theorem lkX1_111 : zLs RX1 111 yX1_swap := ⟨zGW_in 419 (by decide +kernel) (by decide +kernel), zGW_in 420 (by decide +kernel) (by decide +kernel)⟩
theorem lkX1_115 : zLv RX1 115 yX1_transposeSorts := ⟨zGW_in 422 (by decide +kernel) (by decide +kernel), zGW_in 424 (by decide +kernel) (by decide +kernel), zGW_in 20 (by decide +kernel) (by decide +kernel)⟩
theorem lkX5_105 : zLv RX5 105 yX1_trace := ⟨zGW_in 426 (by decide +kernel) (by decide +kernel), zGW_in 427 (by decide +kernel) (by decide +kernel), zGW_in 428 (by decide +kernel) (by decide +kernel)⟩
theorem kcX5_108 : Cond.constant RX5 108 100000000 ∈ zGW := zGW_in 430 (by decide +kernel) (by decide +kernel)
theorem lkL_36 : zLv RL 36 yX5_copy := ⟨zGW_in 431 (by decide +kernel) (by decide +kernel), zGW_in 432 (by decide +kernel) (by decide +kernel), zGW_in 433 (by decide +kernel) (by decide +kernel)⟩
theorem lkL_41 : zLv RL 41 yX5_clear := ⟨zGW_in 435 (by decide +kernel) (by decide +kernel), zGW_in 436 (by decide +kernel) (by decide +kernel), zGW_in 437 (by decide +kernel) (by decide +kernel)⟩
theorem lkX5_109 : zLv RX5 109 yX1_emptyBlockOf := ⟨zGW_in 439 (by decide +kernel) (by decide +kernel), zGW_in 440 (by decide +kernel) (by decide +kernel), zGW_in 441 (by decide +kernel) (by decide +kernel)⟩
theorem lkX1_43 : zLv RX1 43 yX1_depthOf := ⟨zGW_in 443 (by decide +kernel) (by decide +kernel), zGW_in 444 (by decide +kernel) (by decide +kernel), zGW_in 445 (by decide +kernel) (by decide +kernel)⟩
theorem lkX1_78 : zLv RX1 78 yX1_setEmpty := ⟨zGW_in 447 (by decide +kernel) (by decide +kernel), zGW_in 229 (by decide +kernel) (by decide +kernel), zGW_in 230 (by decide +kernel) (by decide +kernel)⟩
theorem lkL_45 : zLv RL 45 yX5_at := ⟨zGW_in 448 (by decide +kernel) (by decide +kernel), zGW_in 449 (by decide +kernel) (by decide +kernel), zGW_in 450 (by decide +kernel) (by decide +kernel)⟩
theorem lkL_49 : zLv RL 49 yX5_block := ⟨zGW_in 452 (by decide +kernel) (by decide +kernel), zGW_in 453 (by decide +kernel) (by decide +kernel), zGW_in 454 (by decide +kernel) (by decide +kernel)⟩
theorem lkX5_112 : zLv RX5 112 yX1_depthOf := ⟨zGW_in 456 (by decide +kernel) (by decide +kernel), zGW_in 444 (by decide +kernel) (by decide +kernel), zGW_in 445 (by decide +kernel) (by decide +kernel)⟩
theorem lkX5_119 : zLv RX5 119 yX1_sortOf := ⟨zGW_in 457 (by decide +kernel) (by decide +kernel), zGW_in 325 (by decide +kernel) (by decide +kernel), zGW_in 326 (by decide +kernel) (by decide +kernel)⟩
theorem lkX5_123 : zLs RX5 123 yX5_firstOf := ⟨zGW_in 458 (by decide +kernel) (by decide +kernel), zGW_in 357 (by decide +kernel) (by decide +kernel)⟩
theorem lkX5_126 : zLs RX5 126 yX5_roomOfUncut := ⟨zGW_in 459 (by decide +kernel) (by decide +kernel), zGW_in 329 (by decide +kernel) (by decide +kernel)⟩
theorem lkL_53 : zLv RL 53 yX5_of := ⟨zGW_in 460 (by decide +kernel) (by decide +kernel), zGW_in 461 (by decide +kernel) (by decide +kernel), zGW_in 462 (by decide +kernel) (by decide +kernel)⟩
theorem lkX5_129 : zLv RX5 129 yX1_deepest := ⟨zGW_in 464 (by decide +kernel) (by decide +kernel), zGW_in 465 (by decide +kernel) (by decide +kernel), zGW_in 466 (by decide +kernel) (by decide +kernel)⟩
theorem lkX5_132 : zLv RX5 132 yX1_blocksOf := ⟨zGW_in 468 (by decide +kernel) (by decide +kernel), zGW_in 469 (by decide +kernel) (by decide +kernel), zGW_in 470 (by decide +kernel) (by decide +kernel)⟩
theorem lkX1_63 : zLv RX1 63 yX1_blocksFrom := ⟨zGW_in 472 (by decide +kernel) (by decide +kernel), zGW_in 474 (by decide +kernel) (by decide +kernel), zGW_in 21 (by decide +kernel) (by decide +kernel)⟩
theorem lkX5_135 : zLv RX5 135 yX1_filledEntries := ⟨zGW_in 476 (by decide +kernel) (by decide +kernel), zGW_in 477 (by decide +kernel) (by decide +kernel), zGW_in 478 (by decide +kernel) (by decide +kernel)⟩
theorem lkX5_138 : zLv RX5 138 yX1_greatest := ⟨zGW_in 480 (by decide +kernel) (by decide +kernel), zGW_in 481 (by decide +kernel) (by decide +kernel), zGW_in 482 (by decide +kernel) (by decide +kernel)⟩
theorem lkX5_141 : zLv RX5 141 yX1_least := ⟨zGW_in 484 (by decide +kernel) (by decide +kernel), zGW_in 485 (by decide +kernel) (by decide +kernel), zGW_in 486 (by decide +kernel) (by decide +kernel)⟩
theorem lkX5_144 : zLv RX5 144 yX1_isItsTurned := ⟨zGW_in 488 (by decide +kernel) (by decide +kernel), zGW_in 489 (by decide +kernel) (by decide +kernel), zGW_in 490 (by decide +kernel) (by decide +kernel)⟩
theorem lkL_57 : zLv RL 57 yX5_product := ⟨zGW_in 492 (by decide +kernel) (by decide +kernel), zGW_in 493 (by decide +kernel) (by decide +kernel), zGW_in 494 (by decide +kernel) (by decide +kernel)⟩
theorem kcX5_147 : Cond.constantLong RX5 147 (-1000000000000) ∈ zGW := zGW_in 496 (by decide +kernel) (by decide +kernel)
theorem lkL_62 : zLv RL 62 yX5_mean := ⟨zGW_in 497 (by decide +kernel) (by decide +kernel), zGW_in 498 (by decide +kernel) (by decide +kernel), zGW_in 499 (by decide +kernel) (by decide +kernel)⟩
theorem lkX5_149 : zLv RX5 149 yX1_sum := ⟨zGW_in 501 (by decide +kernel) (by decide +kernel), zGW_in 502 (by decide +kernel) (by decide +kernel), zGW_in 503 (by decide +kernel) (by decide +kernel)⟩
theorem lkX5_152 : zLs RX5 152 yX5_bitsOfPart := ⟨zGW_in 505 (by decide +kernel) (by decide +kernel), zGW_in 506 (by decide +kernel) (by decide +kernel)⟩
theorem lmX5_210 : Cond.methodLink RX5 210 Lib.MathLoose.abs_long.x ∈ zGW ∧ Cond.static Lib.MathLoose.abs_long.x ∈ zGW ∧ Cond.initialized "java/lang/Math" ∈ zGW ∧ Cond.code Lib.MathLoose.abs_long.x Lib.MathLoose.abs_long.code 2 (some .long) ∈ zGW := ⟨zGW_in 508 (by decide +kernel) (by decide +kernel), zGW_in 509 (by decide +kernel) (by decide +kernel), zGW_in 70 (by decide +kernel) (by decide +kernel), zGW_in 510 (by decide +kernel) (by decide +kernel)⟩
theorem lkX5_216 : zLs RX5 216 yX5_highestBit := ⟨zGW_in 511 (by decide +kernel) (by decide +kernel), zGW_in 512 (by decide +kernel) (by decide +kernel)⟩
theorem kcX5_221 : Cond.constantLong RX5 221 (-9223372036854775808) ∈ zGW := zGW_in 514 (by decide +kernel) (by decide +kernel)
theorem lkL_67 : zLv RL 67 yX5_share := ⟨zGW_in 515 (by decide +kernel) (by decide +kernel), zGW_in 516 (by decide +kernel) (by decide +kernel), zGW_in 517 (by decide +kernel) (by decide +kernel)⟩
theorem lkL_71 : zLv RL 71 yX5_count := ⟨zGW_in 519 (by decide +kernel) (by decide +kernel), zGW_in 520 (by decide +kernel) (by decide +kernel), zGW_in 521 (by decide +kernel) (by decide +kernel)⟩
theorem lkX5_156 : zLv RX5 156 yX4_room := ⟨zGW_in 523 (by decide +kernel) (by decide +kernel), zGW_in 524 (by decide +kernel) (by decide +kernel), zGW_in 525 (by decide +kernel) (by decide +kernel)⟩
theorem lkX4_26 : zLv RX4 26 yX1_room := ⟨zGW_in 527 (by decide +kernel) (by decide +kernel), zGW_in 313 (by decide +kernel) (by decide +kernel), zGW_in 314 (by decide +kernel) (by decide +kernel)⟩
theorem lkX5_157 : zLv RX5 157 yX4_emptyOnes := ⟨zGW_in 528 (by decide +kernel) (by decide +kernel), zGW_in 529 (by decide +kernel) (by decide +kernel), zGW_in 530 (by decide +kernel) (by decide +kernel)⟩
theorem lkX4_30 : zLv RX4 30 yX1_sortOf := ⟨zGW_in 532 (by decide +kernel) (by decide +kernel), zGW_in 325 (by decide +kernel) (by decide +kernel), zGW_in 326 (by decide +kernel) (by decide +kernel)⟩
theorem lkL_75 : zLv RL 75 yX5_far := ⟨zGW_in 533 (by decide +kernel) (by decide +kernel), zGW_in 534 (by decide +kernel) (by decide +kernel), zGW_in 535 (by decide +kernel) (by decide +kernel)⟩
theorem lkX5_164 : zLv RX5 164 yX1_greatestDifference := ⟨zGW_in 537 (by decide +kernel) (by decide +kernel), zGW_in 538 (by decide +kernel) (by decide +kernel), zGW_in 539 (by decide +kernel) (by decide +kernel)⟩
theorem lmX1_119 : Cond.methodLink RX1 119 Lib.Math.abs.name ∈ zGW ∧ Cond.static Lib.Math.abs.name ∈ zGW ∧ Cond.initialized "java/lang/Math" ∈ zGW ∧ Cond.code Lib.Math.abs.name Lib.Math.abs.code 1 (some .int) ∈ zGW := ⟨zGW_in 541 (by decide +kernel) (by decide +kernel), zGW_in 542 (by decide +kernel) (by decide +kernel), zGW_in 70 (by decide +kernel) (by decide +kernel), zGW_in 543 (by decide +kernel) (by decide +kernel)⟩
theorem lkL_79 : zLv RL 79 yX5_wouldTake := ⟨zGW_in 544 (by decide +kernel) (by decide +kernel), zGW_in 545 (by decide +kernel) (by decide +kernel), zGW_in 546 (by decide +kernel) (by decide +kernel)⟩
theorem lkL_83 : zLv RL 83 yX5_isOne := ⟨zGW_in 548 (by decide +kernel) (by decide +kernel), zGW_in 549 (by decide +kernel) (by decide +kernel), zGW_in 550 (by decide +kernel) (by decide +kernel)⟩
theorem lkX5_168 : zLs RX5 168 yX5_isSquareEdge := ⟨zGW_in 552 (by decide +kernel) (by decide +kernel), zGW_in 553 (by decide +kernel) (by decide +kernel)⟩
theorem lkX5_171 : zLv RX5 171 yX1_toldByOne := ⟨zGW_in 555 (by decide +kernel) (by decide +kernel), zGW_in 377 (by decide +kernel) (by decide +kernel), zGW_in 378 (by decide +kernel) (by decide +kernel)⟩
theorem lkL_87 : zLv RL 87 yX5_bestTimes := ⟨zGW_in 556 (by decide +kernel) (by decide +kernel), zGW_in 557 (by decide +kernel) (by decide +kernel), zGW_in 558 (by decide +kernel) (by decide +kernel)⟩
theorem lkX5_174 : zLv RX5 174 yX5_countZeros := ⟨zGW_in 560 (by decide +kernel) (by decide +kernel), zGW_in 562 (by decide +kernel) (by decide +kernel), zGW_in 22 (by decide +kernel) (by decide +kernel)⟩
theorem lkL_93 : zLv RL 93 yX5_put := ⟨zGW_in 564 (by decide +kernel) (by decide +kernel), zGW_in 565 (by decide +kernel) (by decide +kernel), zGW_in 566 (by decide +kernel) (by decide +kernel)⟩
theorem lkX5_178 : zLs RX5 178 yX5_signsIn := ⟨zGW_in 568 (by decide +kernel) (by decide +kernel), zGW_in 569 (by decide +kernel) (by decide +kernel)⟩
theorem kcX5_182 : Cond.constantLong RX5 182 255 ∈ zGW := zGW_in 571 (by decide +kernel) (by decide +kernel)
theorem kcX5_223 : Cond.constantLong RX5 223 33 ∈ zGW := zGW_in 572 (by decide +kernel) (by decide +kernel)
theorem kcX5_225 : Cond.constantLong RX5 225 126 ∈ zGW := zGW_in 573 (by decide +kernel) (by decide +kernel)
theorem lkX5_184 : zLv RX5 184 yX2_append := ⟨zGW_in 574 (by decide +kernel) (by decide +kernel), zGW_in 575 (by decide +kernel) (by decide +kernel), zGW_in 576 (by decide +kernel) (by decide +kernel)⟩
theorem lkL_98 : zLv RL 98 yX5_wipe := ⟨zGW_in 578 (by decide +kernel) (by decide +kernel), zGW_in 579 (by decide +kernel) (by decide +kernel), zGW_in 580 (by decide +kernel) (by decide +kernel)⟩
theorem lkL_103 : zLv RL 103 yX5_fault := ⟨zGW_in 582 (by decide +kernel) (by decide +kernel), zGW_in 583 (by decide +kernel) (by decide +kernel), zGW_in 584 (by decide +kernel) (by decide +kernel)⟩
theorem lkL_107 : zLv RL 107 yX5_undo := ⟨zGW_in 586 (by decide +kernel) (by decide +kernel), zGW_in 587 (by decide +kernel) (by decide +kernel), zGW_in 588 (by decide +kernel) (by decide +kernel)⟩
theorem lkX5_191 : zLv RX5 191 yX0_takeBack := ⟨zGW_in 590 (by decide +kernel) (by decide +kernel), zGW_in 591 (by decide +kernel) (by decide +kernel), zGW_in 592 (by decide +kernel) (by decide +kernel)⟩
theorem lkL_111 : zLv RL 111 yX5_save := ⟨zGW_in 594 (by decide +kernel) (by decide +kernel), zGW_in 595 (by decide +kernel) (by decide +kernel), zGW_in 596 (by decide +kernel) (by decide +kernel)⟩
theorem lkX5_195 : zLs RX5 195 yX5_isSlot := ⟨zGW_in 598 (by decide +kernel) (by decide +kernel), zGW_in 599 (by decide +kernel) (by decide +kernel)⟩
theorem lkX5_201 : zLv RX5 201 yX4_become := ⟨zGW_in 601 (by decide +kernel) (by decide +kernel), zGW_in 301 (by decide +kernel) (by decide +kernel), zGW_in 302 (by decide +kernel) (by decide +kernel)⟩
theorem lkL_115 : zLv RL 115 yX5_restore := ⟨zGW_in 602 (by decide +kernel) (by decide +kernel), zGW_in 603 (by decide +kernel) (by decide +kernel), zGW_in 604 (by decide +kernel) (by decide +kernel)⟩
theorem klL_10 : Cond.classLink RL 10 RX6 ∈ zGW := zGW_in 606 (by decide +kernel) (by decide +kernel)
theorem lkL_12 : zLi RL 12 yX6_init := ⟨zGW_in 608 (by decide +kernel) (by decide +kernel), zGW_in 609 (by decide +kernel) (by decide +kernel), rfl⟩
theorem loX6_1 : Cond.methodLink RX6 1 objectInit ∈ zGW ∧ Cond.instanceMethod objectInit ∈ zGW ∧ Cond.code objectInit ⟨#[0xb1]⟩ 1 none ∈ zGW := ⟨zGW_in 611 (by decide +kernel) (by decide +kernel), zGW_in 80 (by decide +kernel) (by decide +kernel), zGW_in 81 (by decide +kernel) (by decide +kernel)⟩
theorem lfX6_41 : zFl RX6 41 6 0 := ⟨RX6, TX6, 18, rfl, by decide, zGW_in 612 (by decide +kernel) (by decide +kernel), inX6⟩
theorem lfX6_7 : zFl RX6 7 6 1 := ⟨RX6, TX6, 18, rfl, by decide, zGW_in 613 (by decide +kernel) (by decide +kernel), inX6⟩
theorem lfX6_13 : zFl RX6 13 6 2 := ⟨RX6, TX6, 18, rfl, by decide, zGW_in 614 (by decide +kernel) (by decide +kernel), inX6⟩
theorem lfX6_16 : zFl RX6 16 6 3 := ⟨RX6, TX6, 18, rfl, by decide, zGW_in 615 (by decide +kernel) (by decide +kernel), inX6⟩
theorem lfX6_53 : zFl RX6 53 6 4 := ⟨RX6, TX6, 18, rfl, by decide, zGW_in 616 (by decide +kernel) (by decide +kernel), inX6⟩
theorem lfX6_19 : zFl RX6 19 6 5 := ⟨RX6, TX6, 18, rfl, by decide, zGW_in 617 (by decide +kernel) (by decide +kernel), inX6⟩
theorem lfX6_22 : zFl RX6 22 6 6 := ⟨RX6, TX6, 18, rfl, by decide, zGW_in 618 (by decide +kernel) (by decide +kernel), inX6⟩
theorem lfX6_26 : zFl RX6 26 6 7 := ⟨RX6, TX6, 18, rfl, by decide, zGW_in 619 (by decide +kernel) (by decide +kernel), inX6⟩
theorem lfX6_115 : zFl RX6 115 6 8 := ⟨RX6, TX6, 18, rfl, by decide, zGW_in 620 (by decide +kernel) (by decide +kernel), inX6⟩
theorem lfX6_195 : zFl RX6 195 6 9 := ⟨RX6, TX6, 18, rfl, by decide, zGW_in 621 (by decide +kernel) (by decide +kernel), inX6⟩
theorem lfX6_198 : zFl RX6 198 6 10 := ⟨RX6, TX6, 18, rfl, by decide, zGW_in 622 (by decide +kernel) (by decide +kernel), inX6⟩
theorem lfX6_29 : zFl RX6 29 6 11 := ⟨RX6, TX6, 18, rfl, by decide, zGW_in 623 (by decide +kernel) (by decide +kernel), inX6⟩
theorem lfX6_32 : zFl RX6 32 6 12 := ⟨RX6, TX6, 18, rfl, by decide, zGW_in 624 (by decide +kernel) (by decide +kernel), inX6⟩
theorem lfX6_35 : zFl RX6 35 6 13 := ⟨RX6, TX6, 18, rfl, by decide, zGW_in 625 (by decide +kernel) (by decide +kernel), inX6⟩
theorem lfX6_211 : zFl RX6 211 6 14 := ⟨RX6, TX6, 18, rfl, by decide, zGW_in 626 (by decide +kernel) (by decide +kernel), inX6⟩
theorem lfX6_214 : zFl RX6 214 6 15 := ⟨RX6, TX6, 18, rfl, by decide, zGW_in 627 (by decide +kernel) (by decide +kernel), inX6⟩
theorem lfX6_217 : zFl RX6 217 6 16 := ⟨RX6, TX6, 18, rfl, by decide, zGW_in 628 (by decide +kernel) (by decide +kernel), inX6⟩
theorem lfX6_38 : zFl RX6 38 6 17 := ⟨RX6, TX6, 18, rfl, by decide, zGW_in 629 (by decide +kernel) (by decide +kernel), inX6⟩
theorem lkL_17 : zLv RL 17 yX6_tell := ⟨zGW_in 668 (by decide +kernel) (by decide +kernel), zGW_in 669 (by decide +kernel) (by decide +kernel), zGW_in 670 (by decide +kernel) (by decide +kernel)⟩
theorem lkX6_104 : zLs RX6 104 yX6_isMatrix := ⟨zGW_in 672 (by decide +kernel) (by decide +kernel), zGW_in 673 (by decide +kernel) (by decide +kernel)⟩
theorem lkX6_45 : zLs RX6 45 yX6_in := ⟨zGW_in 675 (by decide +kernel) (by decide +kernel), zGW_in 676 (by decide +kernel) (by decide +kernel)⟩
theorem lkX6_108 : zLv RX6 108 yX6_reads := ⟨zGW_in 678 (by decide +kernel) (by decide +kernel), zGW_in 680 (by decide +kernel) (by decide +kernel), zGW_in 23 (by decide +kernel) (by decide +kernel)⟩
theorem lkX6_202 : zLv RX6 202 yX6_letter := ⟨zGW_in 682 (by decide +kernel) (by decide +kernel), zGW_in 684 (by decide +kernel) (by decide +kernel), zGW_in 24 (by decide +kernel) (by decide +kernel)⟩
theorem lkX6_233 : zLv RX6 233 yX6_goesDown := ⟨zGW_in 686 (by decide +kernel) (by decide +kernel), zGW_in 688 (by decide +kernel) (by decide +kernel), zGW_in 25 (by decide +kernel) (by decide +kernel)⟩
theorem lkX6_49 : zLs RX6 49 yX6_node := ⟨zGW_in 690 (by decide +kernel) (by decide +kernel), zGW_in 691 (by decide +kernel) (by decide +kernel)⟩
theorem lkX6_236 : zLv RX6 236 yX6_readsBlock := ⟨zGW_in 693 (by decide +kernel) (by decide +kernel), zGW_in 695 (by decide +kernel) (by decide +kernel), zGW_in 26 (by decide +kernel) (by decide +kernel)⟩
theorem lkX6_67 : zLs RX6 67 yX6_sizeAt := ⟨zGW_in 697 (by decide +kernel) (by decide +kernel), zGW_in 698 (by decide +kernel) (by decide +kernel)⟩
theorem lkX6_220 : zLv RX6 220 yX6_laysRead := ⟨zGW_in 700 (by decide +kernel) (by decide +kernel), zGW_in 702 (by decide +kernel) (by decide +kernel), zGW_in 27 (by decide +kernel) (by decide +kernel)⟩
theorem lkX6_208 : zLv RX6 208 yX6_value := ⟨zGW_in 704 (by decide +kernel) (by decide +kernel), zGW_in 706 (by decide +kernel) (by decide +kernel), zGW_in 28 (by decide +kernel) (by decide +kernel)⟩
theorem lkX6_205 : zLv RX6 205 yX6_number := ⟨zGW_in 708 (by decide +kernel) (by decide +kernel), zGW_in 710 (by decide +kernel) (by decide +kernel), zGW_in 29 (by decide +kernel) (by decide +kernel)⟩
theorem lkX6_223 : zLv RX6 223 yX6_keepsValues := ⟨zGW_in 712 (by decide +kernel) (by decide +kernel), zGW_in 714 (by decide +kernel) (by decide +kernel), zGW_in 30 (by decide +kernel) (by decide +kernel)⟩
theorem lkX6_227 : zLv RX6 227 yX6_readsValues := ⟨zGW_in 716 (by decide +kernel) (by decide +kernel), zGW_in 718 (by decide +kernel) (by decide +kernel), zGW_in 31 (by decide +kernel) (by decide +kernel)⟩
theorem lkX6_230 : zLv RX6 230 yX6_wants := ⟨zGW_in 720 (by decide +kernel) (by decide +kernel), zGW_in 722 (by decide +kernel) (by decide +kernel), zGW_in 32 (by decide +kernel) (by decide +kernel)⟩
theorem lkX6_239 : zLv RX6 239 yX6_goesOn := ⟨zGW_in 724 (by decide +kernel) (by decide +kernel), zGW_in 726 (by decide +kernel) (by decide +kernel), zGW_in 33 (by decide +kernel) (by decide +kernel)⟩
theorem lkX6_112 : zLv RX6 112 yX6_counts := ⟨zGW_in 728 (by decide +kernel) (by decide +kernel), zGW_in 730 (by decide +kernel) (by decide +kernel), zGW_in 34 (by decide +kernel) (by decide +kernel)⟩
theorem lkX6_56 : zLv RX6 56 yX6_records := ⟨zGW_in 732 (by decide +kernel) (by decide +kernel), zGW_in 734 (by decide +kernel) (by decide +kernel), zGW_in 35 (by decide +kernel) (by decide +kernel)⟩
theorem lkX6_78 : zLv RX6 78 yX6_room := ⟨zGW_in 736 (by decide +kernel) (by decide +kernel), zGW_in 738 (by decide +kernel) (by decide +kernel), zGW_in 36 (by decide +kernel) (by decide +kernel)⟩
theorem lkX6_75 : zLv RX6 75 yX6_roomFrom := ⟨zGW_in 740 (by decide +kernel) (by decide +kernel), zGW_in 742 (by decide +kernel) (by decide +kernel), zGW_in 37 (by decide +kernel) (by decide +kernel)⟩
theorem lkX6_63 : zLv RX6 63 yX6_isThere := ⟨zGW_in 744 (by decide +kernel) (by decide +kernel), zGW_in 746 (by decide +kernel) (by decide +kernel), zGW_in 38 (by decide +kernel) (by decide +kernel)⟩
theorem lkX6_59 : zLv RX6 59 yX6_sort := ⟨zGW_in 748 (by decide +kernel) (by decide +kernel), zGW_in 750 (by decide +kernel) (by decide +kernel), zGW_in 39 (by decide +kernel) (by decide +kernel)⟩
theorem lkX6_71 : zLs RX6 71 yX6_roomOf := ⟨zGW_in 752 (by decide +kernel) (by decide +kernel), zGW_in 753 (by decide +kernel) (by decide +kernel)⟩
theorem lkL_22 : zLv RL 22 yX6_entry := ⟨zGW_in 755 (by decide +kernel) (by decide +kernel), zGW_in 756 (by decide +kernel) (by decide +kernel), zGW_in 757 (by decide +kernel) (by decide +kernel)⟩
theorem lkX6_118 : zLs RX6 118 yX6_isPlace := ⟨zGW_in 759 (by decide +kernel) (by decide +kernel), zGW_in 760 (by decide +kernel) (by decide +kernel)⟩
theorem kcX6_122 : Cond.constant RX6 122 (-1000000) ∈ zGW := zGW_in 762 (by decide +kernel) (by decide +kernel)
theorem kcX6_123 : Cond.constant RX6 123 1000000 ∈ zGW := zGW_in 763 (by decide +kernel) (by decide +kernel)
theorem lkX6_124 : zLv RX6 124 yX6_cuts := ⟨zGW_in 764 (by decide +kernel) (by decide +kernel), zGW_in 766 (by decide +kernel) (by decide +kernel), zGW_in 40 (by decide +kernel) (by decide +kernel)⟩
theorem lkX6_96 : zLv RX6 96 yX6_sorts := ⟨zGW_in 768 (by decide +kernel) (by decide +kernel), zGW_in 770 (by decide +kernel) (by decide +kernel), zGW_in 41 (by decide +kernel) (by decide +kernel)⟩
theorem lkX6_81 : zLv RX6 81 yX6_get := ⟨zGW_in 772 (by decide +kernel) (by decide +kernel), zGW_in 774 (by decide +kernel) (by decide +kernel), zGW_in 42 (by decide +kernel) (by decide +kernel)⟩
theorem lkX6_127 : zLv RX6 127 yX6_lay := ⟨zGW_in 776 (by decide +kernel) (by decide +kernel), zGW_in 778 (by decide +kernel) (by decide +kernel), zGW_in 43 (by decide +kernel) (by decide +kernel)⟩
theorem lkL_26 : zLv RL 26 yX6_shrink := ⟨zGW_in 780 (by decide +kernel) (by decide +kernel), zGW_in 781 (by decide +kernel) (by decide +kernel), zGW_in 782 (by decide +kernel) (by decide +kernel)⟩
theorem lkX6_130 : zLv RX6 130 yX6_shrinks := ⟨zGW_in 784 (by decide +kernel) (by decide +kernel), zGW_in 786 (by decide +kernel) (by decide +kernel), zGW_in 44 (by decide +kernel) (by decide +kernel)⟩
theorem lkX6_100 : zLv RX6 100 yX6_shrinksBlock := ⟨zGW_in 788 (by decide +kernel) (by decide +kernel), zGW_in 790 (by decide +kernel) (by decide +kernel), zGW_in 45 (by decide +kernel) (by decide +kernel)⟩
theorem lkX6_90 : zLv RX6 90 yX6_oneness := ⟨zGW_in 792 (by decide +kernel) (by decide +kernel), zGW_in 794 (by decide +kernel) (by decide +kernel), zGW_in 46 (by decide +kernel) (by decide +kernel)⟩
theorem lkX6_84 : zLv RX6 84 yX6_firstRow := ⟨zGW_in 796 (by decide +kernel) (by decide +kernel), zGW_in 798 (by decide +kernel) (by decide +kernel), zGW_in 47 (by decide +kernel) (by decide +kernel)⟩
theorem lkX6_87 : zLv RX6 87 yX6_firstColumn := ⟨zGW_in 800 (by decide +kernel) (by decide +kernel), zGW_in 802 (by decide +kernel) (by decide +kernel), zGW_in 48 (by decide +kernel) (by decide +kernel)⟩
theorem lkX6_93 : zLv RX6 93 yX6_areEmpty := ⟨zGW_in 804 (by decide +kernel) (by decide +kernel), zGW_in 806 (by decide +kernel) (by decide +kernel), zGW_in 49 (by decide +kernel) (by decide +kernel)⟩
theorem lkL_31 : zLv RL 31 yX6_add := ⟨zGW_in 808 (by decide +kernel) (by decide +kernel), zGW_in 809 (by decide +kernel) (by decide +kernel), zGW_in 810 (by decide +kernel) (by decide +kernel)⟩
theorem lkX6_141 : zLv RX6 141 yX6_addsBlock := ⟨zGW_in 812 (by decide +kernel) (by decide +kernel), zGW_in 814 (by decide +kernel) (by decide +kernel), zGW_in 50 (by decide +kernel) (by decide +kernel)⟩
theorem lkX6_137 : zLv RX6 137 yX6_addsSquare := ⟨zGW_in 816 (by decide +kernel) (by decide +kernel), zGW_in 818 (by decide +kernel) (by decide +kernel), zGW_in 51 (by decide +kernel) (by decide +kernel)⟩
theorem lkX6_134 : zLs RX6 134 yX6_bounded := ⟨zGW_in 820 (by decide +kernel) (by decide +kernel), zGW_in 821 (by decide +kernel) (by decide +kernel)⟩
theorem lkL_35 : zLv RL 35 yX6_turn := ⟨zGW_in 823 (by decide +kernel) (by decide +kernel), zGW_in 824 (by decide +kernel) (by decide +kernel), zGW_in 825 (by decide +kernel) (by decide +kernel)⟩
theorem lkX6_144 : zLv RX6 144 yX6_swaps := ⟨zGW_in 827 (by decide +kernel) (by decide +kernel), zGW_in 829 (by decide +kernel) (by decide +kernel), zGW_in 52 (by decide +kernel) (by decide +kernel)⟩
theorem lkX6_148 : zLv RX6 148 yX6_trace := ⟨zGW_in 831 (by decide +kernel) (by decide +kernel), zGW_in 833 (by decide +kernel) (by decide +kernel), zGW_in 53 (by decide +kernel) (by decide +kernel)⟩
theorem kcX6_151 : Cond.constant RX6 151 100000000 ∈ zGW := zGW_in 835 (by decide +kernel) (by decide +kernel)
theorem lkL_40 : zLv RL 40 yX6_copy := ⟨zGW_in 836 (by decide +kernel) (by decide +kernel), zGW_in 837 (by decide +kernel) (by decide +kernel), zGW_in 838 (by decide +kernel) (by decide +kernel)⟩
theorem lkL_44 : zLv RL 44 yX6_clear := ⟨zGW_in 840 (by decide +kernel) (by decide +kernel), zGW_in 841 (by decide +kernel) (by decide +kernel), zGW_in 842 (by decide +kernel) (by decide +kernel)⟩
theorem lkX6_152 : zLv RX6 152 yX6_depthAt := ⟨zGW_in 844 (by decide +kernel) (by decide +kernel), zGW_in 846 (by decide +kernel) (by decide +kernel), zGW_in 54 (by decide +kernel) (by decide +kernel)⟩
theorem lkL_48 : zLv RL 48 yX6_at := ⟨zGW_in 848 (by decide +kernel) (by decide +kernel), zGW_in 849 (by decide +kernel) (by decide +kernel), zGW_in 850 (by decide +kernel) (by decide +kernel)⟩
theorem lkL_52 : zLv RL 52 yX6_block := ⟨zGW_in 852 (by decide +kernel) (by decide +kernel), zGW_in 853 (by decide +kernel) (by decide +kernel), zGW_in 854 (by decide +kernel) (by decide +kernel)⟩
theorem lkL_56 : zLv RL 56 yX6_of := ⟨zGW_in 856 (by decide +kernel) (by decide +kernel), zGW_in 857 (by decide +kernel) (by decide +kernel), zGW_in 858 (by decide +kernel) (by decide +kernel)⟩
theorem lkX6_155 : zLv RX6 155 yX6_overBlocks := ⟨zGW_in 860 (by decide +kernel) (by decide +kernel), zGW_in 862 (by decide +kernel) (by decide +kernel), zGW_in 55 (by decide +kernel) (by decide +kernel)⟩
theorem lkX6_158 : zLv RX6 158 yX6_overEntries := ⟨zGW_in 864 (by decide +kernel) (by decide +kernel), zGW_in 866 (by decide +kernel) (by decide +kernel), zGW_in 56 (by decide +kernel) (by decide +kernel)⟩
theorem lkL_61 : zLv RL 61 yX6_product := ⟨zGW_in 868 (by decide +kernel) (by decide +kernel), zGW_in 869 (by decide +kernel) (by decide +kernel), zGW_in 870 (by decide +kernel) (by decide +kernel)⟩
theorem kcX6_161 : Cond.constantLong RX6 161 (-1000000000000) ∈ zGW := zGW_in 872 (by decide +kernel) (by decide +kernel)
theorem lkL_66 : zLv RL 66 yX6_mean := ⟨zGW_in 873 (by decide +kernel) (by decide +kernel), zGW_in 874 (by decide +kernel) (by decide +kernel), zGW_in 875 (by decide +kernel) (by decide +kernel)⟩
theorem kcX6_163 : Cond.constantDouble RX6 163 4643211215818981376 ∈ zGW := zGW_in 877 (by decide +kernel) (by decide +kernel)
theorem lkX6_165 : zLs RX6 165 yJxe99ae_doubleToLongBits_ccdee := ⟨zGW_in 878 (by decide +kernel) (by decide +kernel), zGW_in 879 (by decide +kernel) (by decide +kernel)⟩
theorem lkJxe99ae_122 : zLs RJxe99ae 122 yJxe99ae_isNaN_b9ae7 := ⟨zGW_in 881 (by decide +kernel) (by decide +kernel), zGW_in 882 (by decide +kernel) (by decide +kernel)⟩
theorem kcJxe99ae_137 : Cond.constantLong RJxe99ae 137 9221120237041090560 ∈ zGW := zGW_in 887 (by decide +kernel) (by decide +kernel)
theorem lkL_70 : zLv RL 70 yX6_share := ⟨zGW_in 888 (by decide +kernel) (by decide +kernel), zGW_in 889 (by decide +kernel) (by decide +kernel), zGW_in 890 (by decide +kernel) (by decide +kernel)⟩
theorem kcX6_171 : Cond.constantFloat RX6 171 1132462080 ∈ zGW := zGW_in 892 (by decide +kernel) (by decide +kernel)
theorem lkX6_172 : zLs RX6 172 yJxf58ca_floatToIntBits_5c35a := ⟨zGW_in 893 (by decide +kernel) (by decide +kernel), zGW_in 894 (by decide +kernel) (by decide +kernel)⟩
theorem lkJxf58ca_59 : zLs RJxf58ca 59 yJxf58ca_isNaN_12338 := ⟨zGW_in 896 (by decide +kernel) (by decide +kernel), zGW_in 897 (by decide +kernel) (by decide +kernel)⟩
theorem kcJxf58ca_77 : Cond.constant RJxf58ca 77 2143289344 ∈ zGW := zGW_in 902 (by decide +kernel) (by decide +kernel)
theorem lkL_74 : zLv RL 74 yX6_count := ⟨zGW_in 903 (by decide +kernel) (by decide +kernel), zGW_in 904 (by decide +kernel) (by decide +kernel), zGW_in 905 (by decide +kernel) (by decide +kernel)⟩
theorem lkX6_178 : zLv RX6 178 yX6_allRoom := ⟨zGW_in 907 (by decide +kernel) (by decide +kernel), zGW_in 909 (by decide +kernel) (by decide +kernel), zGW_in 57 (by decide +kernel) (by decide +kernel)⟩
theorem lkX6_181 : zLv RX6 181 yX6_emptyOnes := ⟨zGW_in 911 (by decide +kernel) (by decide +kernel), zGW_in 913 (by decide +kernel) (by decide +kernel), zGW_in 58 (by decide +kernel) (by decide +kernel)⟩
theorem lkL_78 : zLv RL 78 yX6_far := ⟨zGW_in 915 (by decide +kernel) (by decide +kernel), zGW_in 916 (by decide +kernel) (by decide +kernel), zGW_in 917 (by decide +kernel) (by decide +kernel)⟩
theorem lkL_82 : zLv RL 82 yX6_wouldTake := ⟨zGW_in 919 (by decide +kernel) (by decide +kernel), zGW_in 920 (by decide +kernel) (by decide +kernel), zGW_in 921 (by decide +kernel) (by decide +kernel)⟩
theorem lkX6_184 : zLv RX6 184 yX6_putAside := ⟨zGW_in 923 (by decide +kernel) (by decide +kernel), zGW_in 925 (by decide +kernel) (by decide +kernel), zGW_in 59 (by decide +kernel) (by decide +kernel)⟩
theorem lkX6_187 : zLv RX6 187 yX6_takeBack := ⟨zGW_in 927 (by decide +kernel) (by decide +kernel), zGW_in 929 (by decide +kernel) (by decide +kernel), zGW_in 60 (by decide +kernel) (by decide +kernel)⟩
theorem lkL_86 : zLv RL 86 yX6_isOne := ⟨zGW_in 931 (by decide +kernel) (by decide +kernel), zGW_in 932 (by decide +kernel) (by decide +kernel), zGW_in 933 (by decide +kernel) (by decide +kernel)⟩
theorem lkL_90 : zLv RL 90 yX6_bestTimes := ⟨zGW_in 935 (by decide +kernel) (by decide +kernel), zGW_in 936 (by decide +kernel) (by decide +kernel), zGW_in 937 (by decide +kernel) (by decide +kernel)⟩
theorem lkX6_190 : zLv RX6 190 yX6_zerosBy := ⟨zGW_in 939 (by decide +kernel) (by decide +kernel), zGW_in 941 (by decide +kernel) (by decide +kernel), zGW_in 61 (by decide +kernel) (by decide +kernel)⟩
theorem lkL_97 : zLv RL 97 yX6_put := ⟨zGW_in 943 (by decide +kernel) (by decide +kernel), zGW_in 944 (by decide +kernel) (by decide +kernel), zGW_in 945 (by decide +kernel) (by decide +kernel)⟩
theorem kcX6_193 : Cond.constantLong RX6 193 255 ∈ zGW := zGW_in 947 (by decide +kernel) (by decide +kernel)
theorem lkL_102 : zLv RL 102 yX6_wipe := ⟨zGW_in 948 (by decide +kernel) (by decide +kernel), zGW_in 949 (by decide +kernel) (by decide +kernel), zGW_in 950 (by decide +kernel) (by decide +kernel)⟩
theorem lkL_106 : zLv RL 106 yX6_fault := ⟨zGW_in 952 (by decide +kernel) (by decide +kernel), zGW_in 953 (by decide +kernel) (by decide +kernel), zGW_in 954 (by decide +kernel) (by decide +kernel)⟩
theorem lkL_110 : zLv RL 110 yX6_undo := ⟨zGW_in 956 (by decide +kernel) (by decide +kernel), zGW_in 957 (by decide +kernel) (by decide +kernel), zGW_in 958 (by decide +kernel) (by decide +kernel)⟩
theorem lkL_114 : zLv RL 114 yX6_save := ⟨zGW_in 960 (by decide +kernel) (by decide +kernel), zGW_in 961 (by decide +kernel) (by decide +kernel), zGW_in 962 (by decide +kernel) (by decide +kernel)⟩
theorem lkL_118 : zLv RL 118 yX6_restore := ⟨zGW_in 964 (by decide +kernel) (by decide +kernel), zGW_in 965 (by decide +kernel) (by decide +kernel), zGW_in 966 (by decide +kernel) (by decide +kernel)⟩
theorem kcL_91 : Cond.constantLong RL 91 4294967295 ∈ zGW := zGW_in 968 (by decide +kernel) (by decide +kernel)
end
section
theorem x_nm {K : zKT} {pc : Nat} {Lo : List (Option zV)} {st : List zV} {n : Nat} {σ : zS} {w : Nat} (k : ∀ s1 : zS, s1 = σ → K pc Lo st n s1 w) : K pc Lo st n σ w := k σ rfl
theorem x_top {K : zKT} {pc : Nat} {Lo : List (Option zV)} {st : List zV} {n : Nat} {σ : zS} {w : Nat} {a : Int} (k : ∀ x : Int, x = a → K pc Lo (zi x :: st) n σ w) : K pc Lo (zi a :: st) n σ w := k a rfl
theorem x_ifeq_d {y : MethodName} {cc : ByteArray} {ml : Nat} {ret : Option FieldType} {h mc ms n0 : Nat} {Ret : zRT} {K : zKT} (C : zX y cc ml ret h mc ms n0 Ret K) {pc : Nat} {Lo : List (Option zV)} {st : List zV} {n : Nat} {σ : zS} {w : Nat} {P : Prop} [Decidable P] {off : Int} {tgt : Nat} (d : decode cc pc = .ok (.ifCond .eq off, 3)) (ht : (pc : Int) + off = (tgt : Int)) (kt : ¬ P → K tgt Lo st n σ w) (kf : P → K (pc + 3) Lo st n σ w) : K pc Lo (zi (zb (decide P)) :: st) n σ w :=
  x_ifeq_b C d ht (fun q => kt (of_decide_eq_false q)) (fun q => kf (of_decide_eq_true q))
theorem x_ifne_d {y : MethodName} {cc : ByteArray} {ml : Nat} {ret : Option FieldType} {h mc ms n0 : Nat} {Ret : zRT} {K : zKT} (C : zX y cc ml ret h mc ms n0 Ret K) {pc : Nat} {Lo : List (Option zV)} {st : List zV} {n : Nat} {σ : zS} {w : Nat} {P : Prop} [Decidable P] {off : Int} {tgt : Nat} (d : decode cc pc = .ok (.ifCond .ne off, 3)) (ht : (pc : Int) + off = (tgt : Int)) (kt : P → K tgt Lo st n σ w) (kf : ¬ P → K (pc + 3) Lo st n σ w) : K pc Lo (zi (zb (decide P)) :: st) n σ w :=
  x_ifne_b C d ht (fun q => kt (of_decide_eq_true q)) (fun q => kf (of_decide_eq_false q))
/-- size of a block by its depth, its number -/
def zsz (d : Int) : Int := if d = 0 then 16 else if d = 1 then 8 else if d = 2 then 4 else 2
def zno (d row col : Int) : Int := (if d = 0 then 0 else if d = 1 then 1 else if d = 2 then 5 else 21) + (row / zsz d) * (if d = 0 then 1 else if d = 1 then 2 else if d = 2 then 4 else 8) + col / zsz d
theorem z4 {d : Int} (h : 0 ≤ d ∧ d ≤ 3) : d = 0 ∨ d = 1 ∨ d = 2 ∨ d = 3 := by omega
theorem zsz_v {d : Int} (h : 0 ≤ d ∧ d ≤ 3) : (d = 0 ∧ zsz d = 16) ∨ (d = 1 ∧ zsz d = 8) ∨ (d = 2 ∧ zsz d = 4) ∨ (d = 3 ∧ zsz d = 2) := by
  rcases z4 h with rfl | rfl | rfl | rfl
  · exact Or.inl ⟨rfl, rfl⟩
  · exact Or.inr (Or.inl ⟨rfl, rfl⟩)
  · exact Or.inr (Or.inr (Or.inl ⟨rfl, rfl⟩))
  · exact Or.inr (Or.inr (Or.inr ⟨rfl, rfl⟩))
theorem zno_in {d row col : Int} (h : 0 ≤ d ∧ d ≤ 3) (hr : 0 ≤ row ∧ row < 16) (hc : 0 ≤ col ∧ col < 16) : 0 ≤ zno d row col ∧ zno d row col < 85 := by
  rcases z4 h with rfl | rfl | rfl | rfl
  · show 0 ≤ 0 + row / 16 * 1 + col / 16 ∧ 0 + row / 16 * 1 + col / 16 < 85; omega
  · show 0 ≤ 1 + row / 8 * 2 + col / 8 ∧ 1 + row / 8 * 2 + col / 8 < 85; omega
  · show 0 ≤ 5 + row / 4 * 4 + col / 4 ∧ 5 + row / 4 * 4 + col / 4 < 85; omega
  · show 0 ≤ 21 + row / 2 * 8 + col / 2 ∧ 21 + row / 2 * 8 + col / 2 < 85; omega
theorem zfirst {d e : Int} (h : 0 ≤ d ∧ d ≤ 3) (he : 0 ≤ e ∧ e < 16) : zand e (-zsz d) = e / zsz d * zsz d := by
  have key : ∀ (a : Fin 4) (b : Fin 16), zand ((b.val : Nat) : Int) (-zsz ((a.val : Nat) : Int)) = ((b.val : Nat) : Int) / zsz ((a.val : Nat) : Int) * zsz ((a.val : Nat) : Int) := by decide +kernel
  have k := key ⟨d.toNat, by omega⟩ ⟨e.toNat, by omega⟩
  dsimp only at k
  rw [Int.toNat_of_nonneg h.1, Int.toNat_of_nonneg he.1] at k
  exact k
section
variable {n : Nat} {σ : zS}
theorem ctX5_isMatrix (m : Int) (hm : -2147483648 ≤ m ∧ m < 2147483648) : zCt 1 0 0 yX5_isMatrix cX5_isMatrix 1 (some .boolean) [zi m] n σ (some (zi (zb (decide (0 ≤ m ∧ m < 4))))) n σ := by
  refine zCt.of (by decide) rfl (Nat.le_of_ble_eq_true rfl) (fun K C => ?_)
  refine x_iload_n C dX5_isMatrix_0 rfl ?_
  refine x_if_lt (tgt := 13) C dX5_isMatrix_1 (by decide) (by omega) (fun c1 => ?_) (fun c1 => ?_)
  · refine x_iconst C dX5_isMatrix_13 ?_
    exact x_zret (st := []) (b := false) C dX5_isMatrix_14 rfl ⟨congrArg (fun z => some (zi (zb z))) (decide_eq_false (by omega)).symm, rfl, rfl, rfl⟩
  · refine x_iload_n C dX5_isMatrix_4 rfl ?_
    refine x_iconst C dX5_isMatrix_5 ?_
    refine x_icmp_ge (tgt := 13) C dX5_isMatrix_6 (by decide) (by omega) (fun c6 => ?_) (fun c6 => ?_)
    · refine x_iconst C dX5_isMatrix_13 ?_
      exact x_zret (st := []) (b := false) C dX5_isMatrix_14 rfl ⟨congrArg (fun z => some (zi (zb z))) (decide_eq_false (by omega)).symm, rfl, rfl, rfl⟩
    · refine x_iconst C dX5_isMatrix_9 ?_
      refine x_goto (tgt := 14) C dX5_isMatrix_10 (by decide) ?_
      exact x_zret (st := []) (b := true) C dX5_isMatrix_14 rfl ⟨congrArg (fun z => some (zi (zb z))) (decide_eq_true (by omega)).symm, rfl, rfl, rfl⟩
theorem ctX5_isSlot (m : Int) (hm : -2147483648 ≤ m ∧ m < 2147483648) : zCt 1 0 0 yX5_isSlot cX5_isSlot 1 (some .boolean) [zi m] n σ (some (zi (zb (decide (0 ≤ m ∧ m < 2))))) n σ := by
  refine zCt.of (by decide) rfl (Nat.le_of_ble_eq_true rfl) (fun K C => ?_)
  refine x_iload_n C dX5_isSlot_0 rfl ?_
  refine x_if_lt (tgt := 13) C dX5_isSlot_1 (by decide) (by omega) (fun c1 => ?_) (fun c1 => ?_)
  · refine x_iconst C dX5_isSlot_13 ?_
    exact x_zret (st := []) (b := false) C dX5_isSlot_14 rfl ⟨congrArg (fun z => some (zi (zb z))) (decide_eq_false (by omega)).symm, rfl, rfl, rfl⟩
  · refine x_iload_n C dX5_isSlot_4 rfl ?_
    refine x_iconst C dX5_isSlot_5 ?_
    refine x_icmp_ge (tgt := 13) C dX5_isSlot_6 (by decide) (by omega) (fun c6 => ?_) (fun c6 => ?_)
    · refine x_iconst C dX5_isSlot_13 ?_
      exact x_zret (st := []) (b := false) C dX5_isSlot_14 rfl ⟨congrArg (fun z => some (zi (zb z))) (decide_eq_false (by omega)).symm, rfl, rfl, rfl⟩
    · refine x_iconst C dX5_isSlot_9 ?_
      refine x_goto (tgt := 14) C dX5_isSlot_10 (by decide) ?_
      exact x_zret (st := []) (b := true) C dX5_isSlot_14 rfl ⟨congrArg (fun z => some (zi (zb z))) (decide_eq_true (by omega)).symm, rfl, rfl, rfl⟩
theorem ctX5_isPlace (m r c : Int) (hm : -2147483648 ≤ m ∧ m < 2147483648) (hr : -2147483648 ≤ r ∧ r < 2147483648) (hc : -2147483648 ≤ c ∧ c < 2147483648) : zCt 2 0 0 yX5_isPlace cX5_isPlace 3 (some .boolean) [zi m, zi r, zi c] n σ (some (zi (zb (decide ((0 ≤ m ∧ m < 4) ∧ (0 ≤ r ∧ r < 16) ∧ 0 ≤ c ∧ c < 16))))) n σ := by
  refine zCt.of (by decide) rfl (Nat.le_of_ble_eq_true rfl) (fun K C => ?_)
  refine x_iload_n C dX5_isPlace_0 rfl ?_
  refine x_callS C dX5_isPlace_1 (ctX5_isMatrix m hm) okX5_isMatrix lkX5_48 ⟨by decide, rfl, rfl, Nat.le_of_ble_eq_true rfl⟩ rfl (Or.inl ⟨rfl, rfl⟩) ?_
  refine x_ifeq_d (tgt := 31) C dX5_isPlace_4 (by decide) (fun c4 => ?_) (fun c4 => ?_)
  · refine x_iconst C dX5_isPlace_31 ?_
    exact x_zret (st := []) (b := false) C dX5_isPlace_32 rfl ⟨congrArg (fun z => some (zi (zb z))) (decide_eq_false (by omega)).symm, rfl, rfl, rfl⟩
  · refine x_iload_n C dX5_isPlace_7 rfl ?_
    refine x_if_lt (tgt := 31) C dX5_isPlace_8 (by decide) (by omega) (fun c8 => ?_) (fun c8 => ?_)
    · refine x_iconst C dX5_isPlace_31 ?_
      exact x_zret (st := []) (b := false) C dX5_isPlace_32 rfl ⟨congrArg (fun z => some (zi (zb z))) (decide_eq_false (by omega)).symm, rfl, rfl, rfl⟩
    · refine x_iload_n C dX5_isPlace_11 rfl ?_
      refine x_bipush C dX5_isPlace_12 (by decide) ?_
      refine x_icmp_ge (tgt := 31) C dX5_isPlace_14 (by decide) (by omega) (fun c14 => ?_) (fun c14 => ?_)
      · refine x_iconst C dX5_isPlace_31 ?_
        exact x_zret (st := []) (b := false) C dX5_isPlace_32 rfl ⟨congrArg (fun z => some (zi (zb z))) (decide_eq_false (by omega)).symm, rfl, rfl, rfl⟩
      · refine x_iload_n C dX5_isPlace_17 rfl ?_
        refine x_if_lt (tgt := 31) C dX5_isPlace_18 (by decide) (by omega) (fun c18 => ?_) (fun c18 => ?_)
        · refine x_iconst C dX5_isPlace_31 ?_
          exact x_zret (st := []) (b := false) C dX5_isPlace_32 rfl ⟨congrArg (fun z => some (zi (zb z))) (decide_eq_false (by omega)).symm, rfl, rfl, rfl⟩
        · refine x_iload_n C dX5_isPlace_21 rfl ?_
          refine x_bipush C dX5_isPlace_22 (by decide) ?_
          refine x_icmp_ge (tgt := 31) C dX5_isPlace_24 (by decide) (by omega) (fun c24 => ?_) (fun c24 => ?_)
          · refine x_iconst C dX5_isPlace_31 ?_
            exact x_zret (st := []) (b := false) C dX5_isPlace_32 rfl ⟨congrArg (fun z => some (zi (zb z))) (decide_eq_false (by omega)).symm, rfl, rfl, rfl⟩
          · refine x_iconst C dX5_isPlace_27 ?_
            refine x_goto (tgt := 32) C dX5_isPlace_28 (by decide) ?_
            exact x_zret (st := []) (b := true) C dX5_isPlace_32 rfl ⟨congrArg (fun z => some (zi (zb z))) (decide_eq_true (by omega)).symm, rfl, rfl, rfl⟩
theorem ctX5_isWithin (x q : Int) (hx : -2147483648 ≤ x ∧ x < 2147483648) (hq : 0 ≤ q ∧ q < 2147483648) : zCt 1 0 0 yX5_isWithin cX5_isWithin 2 (some .boolean) [zi x, zi q] n σ (some (zi (zb (decide (-q ≤ x ∧ x ≤ q))))) n σ := by
  refine zCt.of (by decide) rfl (Nat.le_of_ble_eq_true rfl) (fun K C => ?_)
  refine x_iload_n C dX5_isWithin_0 rfl ?_
  refine x_iload_n C dX5_isWithin_1 rfl ?_
  refine x_ineg C dX5_isWithin_2 ?_
  refine x_icmp_lt (tgt := 15) C dX5_isWithin_3 (by decide) (by omega) (fun c3 => ?_) (fun c3 => ?_)
  · refine x_iconst C dX5_isWithin_15 ?_
    exact x_zret (st := []) (b := false) C dX5_isWithin_16 rfl ⟨congrArg (fun z => some (zi (zb z))) (decide_eq_false (by omega)).symm, rfl, rfl, rfl⟩
  · refine x_iload_n C dX5_isWithin_6 rfl ?_
    refine x_iload_n C dX5_isWithin_7 rfl ?_
    refine x_icmp_gt (tgt := 15) C dX5_isWithin_8 (by decide) (by omega) (fun c8 => ?_) (fun c8 => ?_)
    · refine x_iconst C dX5_isWithin_15 ?_
      exact x_zret (st := []) (b := false) C dX5_isWithin_16 rfl ⟨congrArg (fun z => some (zi (zb z))) (decide_eq_false (by omega)).symm, rfl, rfl, rfl⟩
    · refine x_iconst C dX5_isWithin_11 ?_
      refine x_goto (tgt := 16) C dX5_isWithin_12 (by decide) ?_
      exact x_zret (st := []) (b := true) C dX5_isWithin_16 rfl ⟨congrArg (fun z => some (zi (zb z))) (decide_eq_true (by omega)).symm, rfl, rfl, rfl⟩
theorem ctX5_isSquareEdge (x q : Int) (hx : -2147483648 ≤ x ∧ x < 2147483648) (hq : 0 < q ∧ q ≤ 16) : zCt 1 0 0 yX5_isSquareEdge cX5_isSquareEdge 2 (some .boolean) [zi x, zi q] n σ (some (zi (zb (decide (0 ≤ x ∧ x ≤ 16 - q ∧ x % q = 0))))) n σ := by
  refine zCt.of (by decide) rfl (Nat.le_of_ble_eq_true rfl) (fun K C => ?_)
  have hmod := Int.emod_nonneg x (show q ≠ 0 by omega)
  have hmod2 := Int.emod_lt_of_pos x hq.1
  generalize hz : x % q = z at hmod hmod2 ⊢
  refine x_iload_n C dX5_isSquareEdge_0 rfl ?_
  refine x_if_le (tgt := 26) C dX5_isSquareEdge_1 (by decide) (by omega) (fun c1 => ?_) (fun c1 => ?_)
  · refine x_iconst C dX5_isSquareEdge_26 ?_
    exact x_zret (st := []) (b := false) C dX5_isSquareEdge_27 rfl ⟨congrArg (fun z => some (zi (zb z))) (decide_eq_false (by omega)).symm, rfl, rfl, rfl⟩
  · refine x_iload_n C dX5_isSquareEdge_4 rfl ?_
    refine x_if_lt (tgt := 26) C dX5_isSquareEdge_5 (by decide) (by omega) (fun c5 => ?_) (fun c5 => ?_)
    · refine x_iconst C dX5_isSquareEdge_26 ?_
      exact x_zret (st := []) (b := false) C dX5_isSquareEdge_27 rfl ⟨congrArg (fun z => some (zi (zb z))) (decide_eq_false (by omega)).symm, rfl, rfl, rfl⟩
    · refine x_iload_n C dX5_isSquareEdge_8 rfl ?_
      refine x_bipush C dX5_isSquareEdge_9 (by decide) ?_
      refine x_iload_n C dX5_isSquareEdge_11 rfl ?_
      refine x_isub C dX5_isSquareEdge_12 ?_
      refine x_icmp_gt (tgt := 26) C dX5_isSquareEdge_13 (by decide) (by omega) (fun c13 => ?_) (fun c13 => ?_)
      · refine x_iconst C dX5_isSquareEdge_26 ?_
        exact x_zret (st := []) (b := false) C dX5_isSquareEdge_27 rfl ⟨congrArg (fun z => some (zi (zb z))) (decide_eq_false (by omega)).symm, rfl, rfl, rfl⟩
      · refine x_iload_n C dX5_isSquareEdge_16 rfl ?_
        refine x_iload_n C dX5_isSquareEdge_17 rfl ?_
        refine x_irem C dX5_isSquareEdge_18 (by omega) ?_
        refine x_if_ne (tgt := 26) C dX5_isSquareEdge_19 (by decide) (by rw [hz]; omega) (fun c19 => ?_) (fun c19 => ?_)
        · refine x_iconst C dX5_isSquareEdge_26 ?_
          exact x_zret (st := []) (b := false) C dX5_isSquareEdge_27 rfl ⟨congrArg (fun z => some (zi (zb z))) (decide_eq_false (by omega)).symm, rfl, rfl, rfl⟩
        · refine x_iconst C dX5_isSquareEdge_22 ?_
          refine x_goto (tgt := 27) C dX5_isSquareEdge_23 (by decide) ?_
          exact x_zret (st := []) (b := true) C dX5_isSquareEdge_27 rfl ⟨congrArg (fun z => some (zi (zb z))) (decide_eq_true (by omega)).symm, rfl, rfl, rfl⟩
theorem ctX5_sizeAt (d : Int) (hd : 0 ≤ d ∧ d ≤ 3) : zCt 1 0 0 yX5_sizeAt cX5_sizeAt 1 (some .int) [zi d] n σ (some (zi (zsz d))) n σ := by
  refine zCt.of (by decide) rfl (Nat.le_of_ble_eq_true rfl) (fun K C => ?_)
  refine x_bipush C dX5_sizeAt_0 (by decide) ?_
  refine x_iload_n C dX5_sizeAt_2 rfl ?_
  refine x_ishr C dX5_sizeAt_3 (by omega) ?_
  exact x_iret (st := []) C dX5_sizeAt_4 rfl ⟨congrArg (fun z => some (zi z)) (by rcases z4 hd with rfl | rfl | rfl | rfl <;> decide), rfl, rfl, rfl⟩
theorem ctX5_firstOf (d e : Int) (hd : 0 ≤ d ∧ d ≤ 3) (he : 0 ≤ e ∧ e < 16) : zCt 2 0 0 yX5_firstOf cX5_firstOf 2 (some .int) [zi d, zi e] n σ (some (zi (e / zsz d * zsz d))) n σ := by
  refine zCt.of (by decide) rfl (Nat.le_of_ble_eq_true rfl) (fun K C => ?_)
  refine x_iload_n C dX5_firstOf_0 rfl ?_
  refine x_iload_n C dX5_firstOf_1 rfl ?_
  refine x_callS C dX5_firstOf_2 (ctX5_sizeAt d hd) okX5_sizeAt lkX5_115 ⟨by decide, rfl, rfl, Nat.le_of_ble_eq_true rfl⟩ rfl (Or.inl ⟨rfl, rfl⟩) ?_
  refine x_ineg C dX5_firstOf_5 ?_
  refine x_iand C dX5_firstOf_6 ?_
  exact x_iret (st := []) C dX5_firstOf_7 rfl ⟨congrArg (fun z => some (zi z)) (zfirst hd he), rfl, rfl, rfl⟩
/-- the room of a block that is not cut -/
def zrm (s q : Int) : Int := if s = 1 then q * q else if s = 2 then 2 * q else 0
theorem ctX5_roomOfUncut (s q : Int) (hs : -2147483648 ≤ s ∧ s < 2147483648) : zCt 1 0 0 yX5_roomOfUncut cX5_roomOfUncut 2 (some .int) [zi s, zi q] n σ (some (zi (zrm s q))) n σ := by
  refine zCt.of (by decide) rfl (Nat.le_of_ble_eq_true rfl) (fun K C => ?_)
  refine x_iload_n C dX5_roomOfUncut_0 rfl ?_
  refine x_iconst C dX5_roomOfUncut_1 ?_
  refine x_icmp_ne (tgt := 9) C dX5_roomOfUncut_2 (by decide) (by omega) (fun c2 => ?_) (fun c2 => ?_)
  · refine x_iload_n C dX5_roomOfUncut_9 rfl ?_
    refine x_iconst C dX5_roomOfUncut_10 ?_
    refine x_icmp_ne (tgt := 20) C dX5_roomOfUncut_11 (by decide) (by omega) (fun c11 => ?_) (fun c11 => ?_)
    · refine x_iconst C dX5_roomOfUncut_20 ?_
      exact x_iret (st := []) C dX5_roomOfUncut_21 rfl ⟨congrArg (fun z => some (zi z)) (by simp [zrm, c2, c11]), rfl, rfl, rfl⟩
    · refine x_iconst C dX5_roomOfUncut_14 ?_
      refine x_iload_n C dX5_roomOfUncut_15 rfl ?_
      refine x_imul C dX5_roomOfUncut_16 ?_
      refine x_goto (tgt := 21) C dX5_roomOfUncut_17 (by decide) ?_
      exact x_iret (st := []) C dX5_roomOfUncut_21 rfl ⟨congrArg (fun z => some (zi z)) (by simp [zrm, c2, c11]), rfl, rfl, rfl⟩
  · refine x_iload_n C dX5_roomOfUncut_5 rfl ?_
    refine x_iload_n C dX5_roomOfUncut_6 rfl ?_
    refine x_imul C dX5_roomOfUncut_7 ?_
    exact x_iret (st := []) C dX5_roomOfUncut_8 rfl ⟨congrArg (fun z => some (zi z)) (if_pos c2).symm, rfl, rfl, rfl⟩
theorem ctX1_cellOf (row col : Int) : zCt 1 0 0 yX1_cellOf cX1_cellOf 2 (some .int) [zi row, zi col] n σ (some (zi (row * 16 + col))) n σ := by
  refine zCt.of (by decide) rfl (Nat.le_of_ble_eq_true rfl) (fun K C => ?_)
  refine x_iload_n C dX1_cellOf_0 rfl ?_
  refine x_bipush C dX1_cellOf_1 (by decide) ?_
  refine x_imul C dX1_cellOf_3 ?_
  refine x_iload_n C dX1_cellOf_4 rfl ?_
  refine x_iadd C dX1_cellOf_5 ?_
  exact x_iret (st := []) C dX1_cellOf_6 rfl ⟨congrArg (fun z => some (zi z)) (by first | rfl | omega), rfl, rfl, rfl⟩
theorem ctX1_numberOf (d row col : Int) (hd : 0 ≤ d ∧ d ≤ 3) (hr : 0 ≤ row ∧ row < 16) (hc : 0 ≤ col ∧ col < 16) : zCt 1 0 0 yX1_numberOf cX1_numberOf 5 (some .int) [zi d, zi row, zi col] n σ (some (zi (zno d row col))) n σ := by
  refine zCt.of (by decide) rfl (Nat.le_of_ble_eq_true rfl) (fun K C => ?_)
  rcases z4 hd with rfl | rfl | rfl | rfl
  ·
    refine x_iconst C dX1_numberOf_0 ?_
    refine x_iload_n C dX1_numberOf_1 rfl ?_
    refine x_isub C dX1_numberOf_2 ?_
    refine x_istore_n C dX1_numberOf_3 (by decide) ?_
    refine x_iconst C dX1_numberOf_4 ?_
    refine x_iconst C dX1_numberOf_5 ?_
    refine x_iload_n C dX1_numberOf_6 rfl ?_
    refine x_imul C dX1_numberOf_7 ?_
    refine x_ishl C dX1_numberOf_8 (by omega) ?_
    refine x_iconst C dX1_numberOf_9 ?_
    refine x_isub C dX1_numberOf_10 ?_
    refine x_iconst C dX1_numberOf_11 ?_
    refine x_idiv C dX1_numberOf_12 (by decide) ?_
    refine x_istore C dX1_numberOf_13 (by decide) ?_
    refine x_iload C dX1_numberOf_15 rfl ?_
    refine x_iload_n C dX1_numberOf_17 rfl ?_
    refine x_iload_n C dX1_numberOf_18 rfl ?_
    refine x_ishr C dX1_numberOf_19 (by omega) ?_
    refine x_iload_n C dX1_numberOf_20 rfl ?_
    refine x_ishl C dX1_numberOf_21 (by omega) ?_
    refine x_iadd C dX1_numberOf_22 ?_
    refine x_iload_n C dX1_numberOf_23 rfl ?_
    refine x_iload_n C dX1_numberOf_24 rfl ?_
    refine x_ishr C dX1_numberOf_25 (by omega) ?_
    refine x_iadd C dX1_numberOf_26 ?_
    exact x_iret (st := []) C dX1_numberOf_27 rfl ⟨congrArg (fun z => some (zi z)) (by first | rfl | simp [zno, zsz]), rfl, rfl, rfl⟩
  ·
    refine x_iconst C dX1_numberOf_0 ?_
    refine x_iload_n C dX1_numberOf_1 rfl ?_
    refine x_isub C dX1_numberOf_2 ?_
    refine x_istore_n C dX1_numberOf_3 (by decide) ?_
    refine x_iconst C dX1_numberOf_4 ?_
    refine x_iconst C dX1_numberOf_5 ?_
    refine x_iload_n C dX1_numberOf_6 rfl ?_
    refine x_imul C dX1_numberOf_7 ?_
    refine x_ishl C dX1_numberOf_8 (by omega) ?_
    refine x_iconst C dX1_numberOf_9 ?_
    refine x_isub C dX1_numberOf_10 ?_
    refine x_iconst C dX1_numberOf_11 ?_
    refine x_idiv C dX1_numberOf_12 (by decide) ?_
    refine x_istore C dX1_numberOf_13 (by decide) ?_
    refine x_iload C dX1_numberOf_15 rfl ?_
    refine x_iload_n C dX1_numberOf_17 rfl ?_
    refine x_iload_n C dX1_numberOf_18 rfl ?_
    refine x_ishr C dX1_numberOf_19 (by omega) ?_
    refine x_iload_n C dX1_numberOf_20 rfl ?_
    refine x_ishl C dX1_numberOf_21 (by omega) ?_
    refine x_iadd C dX1_numberOf_22 ?_
    refine x_iload_n C dX1_numberOf_23 rfl ?_
    refine x_iload_n C dX1_numberOf_24 rfl ?_
    refine x_ishr C dX1_numberOf_25 (by omega) ?_
    refine x_iadd C dX1_numberOf_26 ?_
    exact x_iret (st := []) C dX1_numberOf_27 rfl ⟨congrArg (fun z => some (zi z)) (by first | rfl | simp [zno, zsz]), rfl, rfl, rfl⟩
  ·
    refine x_iconst C dX1_numberOf_0 ?_
    refine x_iload_n C dX1_numberOf_1 rfl ?_
    refine x_isub C dX1_numberOf_2 ?_
    refine x_istore_n C dX1_numberOf_3 (by decide) ?_
    refine x_iconst C dX1_numberOf_4 ?_
    refine x_iconst C dX1_numberOf_5 ?_
    refine x_iload_n C dX1_numberOf_6 rfl ?_
    refine x_imul C dX1_numberOf_7 ?_
    refine x_ishl C dX1_numberOf_8 (by omega) ?_
    refine x_iconst C dX1_numberOf_9 ?_
    refine x_isub C dX1_numberOf_10 ?_
    refine x_iconst C dX1_numberOf_11 ?_
    refine x_idiv C dX1_numberOf_12 (by decide) ?_
    refine x_istore C dX1_numberOf_13 (by decide) ?_
    refine x_iload C dX1_numberOf_15 rfl ?_
    refine x_iload_n C dX1_numberOf_17 rfl ?_
    refine x_iload_n C dX1_numberOf_18 rfl ?_
    refine x_ishr C dX1_numberOf_19 (by omega) ?_
    refine x_iload_n C dX1_numberOf_20 rfl ?_
    refine x_ishl C dX1_numberOf_21 (by omega) ?_
    refine x_iadd C dX1_numberOf_22 ?_
    refine x_iload_n C dX1_numberOf_23 rfl ?_
    refine x_iload_n C dX1_numberOf_24 rfl ?_
    refine x_ishr C dX1_numberOf_25 (by omega) ?_
    refine x_iadd C dX1_numberOf_26 ?_
    exact x_iret (st := []) C dX1_numberOf_27 rfl ⟨congrArg (fun z => some (zi z)) (by first | rfl | simp [zno, zsz]), rfl, rfl, rfl⟩
  ·
    refine x_iconst C dX1_numberOf_0 ?_
    refine x_iload_n C dX1_numberOf_1 rfl ?_
    refine x_isub C dX1_numberOf_2 ?_
    refine x_istore_n C dX1_numberOf_3 (by decide) ?_
    refine x_iconst C dX1_numberOf_4 ?_
    refine x_iconst C dX1_numberOf_5 ?_
    refine x_iload_n C dX1_numberOf_6 rfl ?_
    refine x_imul C dX1_numberOf_7 ?_
    refine x_ishl C dX1_numberOf_8 (by omega) ?_
    refine x_iconst C dX1_numberOf_9 ?_
    refine x_isub C dX1_numberOf_10 ?_
    refine x_iconst C dX1_numberOf_11 ?_
    refine x_idiv C dX1_numberOf_12 (by decide) ?_
    refine x_istore C dX1_numberOf_13 (by decide) ?_
    refine x_iload C dX1_numberOf_15 rfl ?_
    refine x_iload_n C dX1_numberOf_17 rfl ?_
    refine x_iload_n C dX1_numberOf_18 rfl ?_
    refine x_ishr C dX1_numberOf_19 (by omega) ?_
    refine x_iload_n C dX1_numberOf_20 rfl ?_
    refine x_ishl C dX1_numberOf_21 (by omega) ?_
    refine x_iadd C dX1_numberOf_22 ?_
    refine x_iload_n C dX1_numberOf_23 rfl ?_
    refine x_iload_n C dX1_numberOf_24 rfl ?_
    refine x_ishr C dX1_numberOf_25 (by omega) ?_
    refine x_iadd C dX1_numberOf_26 ?_
    exact x_iret (st := []) C dX1_numberOf_27 rfl ⟨congrArg (fun z => some (zi z)) (by first | rfl | simp [zno, zsz]), rfl, rfl, rfl⟩
theorem ctX1_rowOfPart (d row q : Int) (hd : 0 ≤ d ∧ d ≤ 2) (hq : 0 ≤ q ∧ q < 4) : zCt 2 0 0 yX1_rowOfPart cX1_rowOfPart 3 (some .int) [zi d, zi row, zi q] n σ (some (zi (row + q / 2 * zsz (d + 1)))) n σ := by
  refine zCt.of (by decide) rfl (Nat.le_of_ble_eq_true rfl) (fun K C => ?_)
  refine x_iload_n C dX1_rowOfPart_0 rfl ?_
  refine x_iload_n C dX1_rowOfPart_1 rfl ?_
  refine x_iconst C dX1_rowOfPart_2 ?_
  refine x_idiv C dX1_rowOfPart_3 (by omega) ?_
  refine x_iload_n C dX1_rowOfPart_4 rfl ?_
  refine x_iconst C dX1_rowOfPart_5 ?_
  refine x_iadd C dX1_rowOfPart_6 ?_
  refine x_callSN C dX1_rowOfPart_7 (ctX5_sizeAt (d + 1) (by omega)) okX5_sizeAt nkX1_24 ⟨by decide, rfl, rfl, Nat.le_of_ble_eq_true rfl⟩ rfl (Or.inl ⟨rfl, rfl⟩) ?_
  refine x_imul C dX1_rowOfPart_10 ?_
  refine x_iadd C dX1_rowOfPart_11 ?_
  exact x_iret (st := []) C dX1_rowOfPart_12 rfl ⟨congrArg (fun z => some (zi z)) (by first | rfl | omega), rfl, rfl, rfl⟩
theorem ctX1_columnOfPart (d row q : Int) (hd : 0 ≤ d ∧ d ≤ 2) (hq : 0 ≤ q ∧ q < 4) : zCt 2 0 0 yX1_columnOfPart cX1_columnOfPart 3 (some .int) [zi d, zi row, zi q] n σ (some (zi (row + q % 2 * zsz (d + 1)))) n σ := by
  refine zCt.of (by decide) rfl (Nat.le_of_ble_eq_true rfl) (fun K C => ?_)
  refine x_iload_n C dX1_columnOfPart_0 rfl ?_
  refine x_iload_n C dX1_columnOfPart_1 rfl ?_
  refine x_iconst C dX1_columnOfPart_2 ?_
  refine x_irem C dX1_columnOfPart_3 (by omega) ?_
  refine x_iload_n C dX1_columnOfPart_4 rfl ?_
  refine x_iconst C dX1_columnOfPart_5 ?_
  refine x_iadd C dX1_columnOfPart_6 ?_
  refine x_callSN C dX1_columnOfPart_7 (ctX5_sizeAt (d + 1) (by omega)) okX5_sizeAt nkX1_24 ⟨by decide, rfl, rfl, Nat.le_of_ble_eq_true rfl⟩ rfl (Or.inl ⟨rfl, rfl⟩) ?_
  refine x_imul C dX1_columnOfPart_10 ?_
  refine x_iadd C dX1_columnOfPart_11 ?_
  exact x_iret (st := []) C dX1_columnOfPart_12 rfl ⟨congrArg (fun z => some (zi z)) (by first | rfl | omega), rfl, rfl, rfl⟩
/-- a matrix: its cell h, its two tables behind it -/
def isM (σ : zS) (n : Nat) (h : Int) (e t : Int → Int) : Prop := σ h = zO 1 [zr (h + 1), zr (h + 2)] ∧ σ (h + 1) = zA 256 e ∧ σ (h + 2) = zA 85 t ∧ 0 < h ∧ h + 2 ≤ n
def cellIn (row col : Int) : Prop := (0 ≤ row ∧ row < 16) ∧ 0 ≤ col ∧ col < 16
theorem ctX1_entryAt {h : Int} {e t : Int → Int} (hm : isM σ n h e t) (row col : Int) (hr : 0 ≤ row ∧ row < 16) (hc : 0 ≤ col ∧ col < 16) : zCt 2 0 0 yX1_entryAt cX1_entryAt 3 (some .int) [zr h, zi row, zi col] n σ (some (zi (e (row * 16 + col)))) n σ := by
  obtain ⟨hM, hE, hT, hh⟩ := hm
  refine zCt.of (by decide) rfl (Nat.le_of_ble_eq_true rfl) (fun K C => ?_)
  refine x_aload_n C dX1_entryAt_0 rfl ?_
  refine x_getfield C dX1_entryAt_1 lfX1_9 hM (by omega) rfl ?_
  refine x_iload_n C dX1_entryAt_4 rfl ?_
  refine x_iload_n C dX1_entryAt_5 rfl ?_
  refine x_callS C dX1_entryAt_6 (ctX1_cellOf _ _) okX1_cellOf lkX1_28 ⟨by decide, rfl, rfl, Nat.le_of_ble_eq_true rfl⟩ rfl (Or.inl ⟨rfl, rfl⟩) ?_
  refine x_iaload C dX1_entryAt_9 hE (by omega) ?_
  exact x_iret (st := []) C dX1_entryAt_10 rfl ⟨congrArg (fun z => some (zi z)) (by first | rfl | omega), rfl, rfl, rfl⟩
theorem ctX1_sortOf {h : Int} {e t : Int → Int} (hm : isM σ n h e t) (d row col : Int) (hd : 0 ≤ d ∧ d ≤ 3) (hr : 0 ≤ row ∧ row < 16) (hc : 0 ≤ col ∧ col < 16) : zCt 2 0 0 yX1_sortOf cX1_sortOf 4 (some .int) [zr h, zi d, zi row, zi col] n σ (some (zi (t (zno d row col)))) n σ := by
  obtain ⟨hM, hE, hT, hh⟩ := hm
  have hno := zno_in hd hr hc
  refine zCt.of (by decide) rfl (Nat.le_of_ble_eq_true rfl) (fun K C => ?_)
  refine x_aload_n C dX1_sortOf_0 rfl ?_
  refine x_getfield C dX1_sortOf_1 lfX1_15 hM (by omega) rfl ?_
  refine x_iload_n C dX1_sortOf_4 rfl ?_
  refine x_iload_n C dX1_sortOf_5 rfl ?_
  refine x_iload_n C dX1_sortOf_6 rfl ?_
  refine x_callS C dX1_sortOf_7 (ctX1_numberOf d row col hd hr hc) okX1_numberOf lkX1_32 ⟨by decide, rfl, rfl, Nat.le_of_ble_eq_true rfl⟩ rfl (Or.inl ⟨rfl, rfl⟩) ?_
  refine x_iaload C dX1_sortOf_10 hT (by omega) ?_
  exact x_iret (st := []) C dX1_sortOf_11 rfl ⟨congrArg (fun z => some (zi z)) (by first | rfl | omega), rfl, rfl, rfl⟩
theorem ctX1_setSort {h : Int} {e t : Int → Int} (hm : isM σ n h e t) (d row col x : Int) (hd : 0 ≤ d ∧ d ≤ 3) (hr : 0 ≤ row ∧ row < 16) (hc : 0 ≤ col ∧ col < 16) : zCt 2 0 0 yX1_setSort cX1_setSort 5 none [zr h, zi d, zi row, zi col, zi x] n σ none n (zsu σ (h + 2) (zA 85 (zu t (zno d row col) x))) := by
  obtain ⟨hM, hE, hT, hh⟩ := hm
  have hno := zno_in hd hr hc
  refine zCt.of (by decide) rfl (Nat.le_of_ble_eq_true rfl) (fun K C => ?_)
  refine x_aload_n C dX1_setSort_0 rfl ?_
  refine x_getfield C dX1_setSort_1 lfX1_15 hM (by omega) rfl ?_
  refine x_iload_n C dX1_setSort_4 rfl ?_
  refine x_iload_n C dX1_setSort_5 rfl ?_
  refine x_iload_n C dX1_setSort_6 rfl ?_
  refine x_callS C dX1_setSort_7 (ctX1_numberOf d row col hd hr hc) okX1_numberOf lkX1_32 ⟨by decide, rfl, rfl, Nat.le_of_ble_eq_true rfl⟩ rfl (Or.inl ⟨rfl, rfl⟩) ?_
  refine x_iload C dX1_setSort_10 rfl ?_
  refine x_iastore C dX1_setSort_12 hT (by omega) ?_
  refine x_nm (fun s12 e12 => ?_)
  have hM := (congrFun e12 h).trans ((zsu_n _ _ (by omega)).trans hM)
  have hE := (congrFun e12 (h+1)).trans ((zsu_n _ _ (by omega)).trans hE)
  have hT := (congrFun e12 (h+2)).trans (zsu_s _ _ _)
  exact x_vret (st := []) C dX1_setSort_13 rfl ⟨rfl, rfl, e12, rfl⟩
theorem ctX1_isCut {h : Int} {e t : Int → Int} (hm : isM σ n h e t) (ht : ∀ j, 0 ≤ t j ∧ t j ≤ 3) (d row col : Int) (hd : 0 ≤ d ∧ d ≤ 3) (hr : 0 ≤ row ∧ row < 16) (hc : 0 ≤ col ∧ col < 16) : zCt 3 0 0 yX1_isCut cX1_isCut 4 (some .boolean) [zr h, zi d, zi row, zi col] n σ (some (zi (zb (decide (d < 3 ∧ t (zno d row col) = 3))))) n σ := by
  obtain ⟨hM, hE, hT, hh⟩ := hm
  have ht1 := ht (zno d row col)
  refine zCt.of (by decide) rfl (Nat.le_of_ble_eq_true rfl) (fun K C => ?_)
  refine x_iload_n C dX1_isCut_0 rfl ?_
  refine x_iconst C dX1_isCut_1 ?_
  refine x_icmp_ge (tgt := 20) C dX1_isCut_2 (by decide) (by omega) (fun c2 => ?_) (fun c2 => ?_)
  · refine x_iconst C dX1_isCut_20 ?_
    exact x_zret (st := []) (b := false) C dX1_isCut_21 rfl ⟨congrArg (fun z => some (zi (zb z))) (decide_eq_false (by omega)).symm, rfl, rfl, rfl⟩
  · refine x_aload_n C dX1_isCut_5 rfl ?_
    refine x_iload_n C dX1_isCut_6 rfl ?_
    refine x_iload_n C dX1_isCut_7 rfl ?_
    refine x_iload_n C dX1_isCut_8 rfl ?_
    refine x_callV C dX1_isCut_9 (ctX1_sortOf ⟨hM, hE, hT, hh⟩ d row col (by omega) hr hc) okX1_sortOf lkX1_36 ⟨⟨hM, rfl, rfl⟩, (by omega)⟩ ⟨by decide, rfl, rfl, Nat.le_of_ble_eq_true rfl⟩ rfl (Or.inl ⟨rfl, rfl⟩) ?_
    refine x_iconst C dX1_isCut_12 ?_
    refine x_icmp_ne (tgt := 20) C dX1_isCut_13 (by decide) (by omega) (fun c13 => ?_) (fun c13 => ?_)
    · refine x_iconst C dX1_isCut_20 ?_
      exact x_zret (st := []) (b := false) C dX1_isCut_21 rfl ⟨congrArg (fun z => some (zi (zb z))) (decide_eq_false (by omega)).symm, rfl, rfl, rfl⟩
    · refine x_iconst C dX1_isCut_16 ?_
      refine x_goto (tgt := 21) C dX1_isCut_17 (by decide) ?_
      exact x_zret (st := []) (b := true) C dX1_isCut_21 rfl ⟨congrArg (fun z => some (zi (zb z))) (decide_eq_true (by omega)).symm, rfl, rfl, rfl⟩
end
end
section
/-- cells that cannot be told apart -/
theorem zc_eqv {g : zG} {t L : Nat} {f f2 : Int → Int} (h : ∀ j : Int, 0 ≤ j → j < L → f j = f2 j) (a : Nat) (H : Heap) (hz : va_at g.2.1 vwCl (a, zc g (zP t L f)) H) : va_at g.2.1 vwCl (a, zc g (zP t L f2)) H := by
  have e : vp_cell (g.2.2 t) (L, .inl (fun j : Nat => zI (f (j : Int)))) = vp_cell (g.2.2 t) (L, .inl (fun j : Nat => zI (f2 (j : Int)))) := by
    rw [vp_cell_i, vp_cell_i]
    unfold arrV
    congr 2
    funext j
    dsimp only
    rw [h j.val (by omega) (by omega)]
  show H[a]? = some _
  rw [← e]
  exact hz
theorem x_sim {y : MethodName} {cc : ByteArray} {ml : Nat} {ret : Option FieldType} {h mc ms n0 : Nat} {Ret : zRT} {K : zKT} (C : zX y cc ml ret h mc ms n0 Ret K) {pc : Nat} {Lo : List (Option zV)} {st : List zV} {n : Nat} {σ : zS} {w : Nat} {a : Int} {L : Nat} {f : Int → Int} (f2 : Int → Int) {t : Nat} (ho : σ a = zP t L f) (hf : ∀ j : Int, 0 ≤ j → j < L → f j = f2 j) (k : K pc Lo st n (zsu σ a (zP t L f2)) w) : K pc Lo st n σ w := by
  obtain ⟨p, l, e, R, s, m, args, below, meth, c, Q, g, ⟨hx, hb, hml, hown, hts, hK, hin⟩, hR, hsz, rfl, hrt⟩ := C
  intro ls H locs hn hl hP hS
  refine k ls H locs hn hl ⟨hP.1, hP.2.1, fun q x hq => ?_⟩ hS
  rw [zW_get] at hq
  by_cases hq1 : q < n
  · rw [if_pos hq1] at hq
    cases hq
    have h1 := hP.2.2 q _ (by rw [zW_get, if_pos hq1])
    by_cases e1 : (q : Int) + 1 = a
    · rw [e1, zsu_s]
      rw [e1, ho] at h1
      exact zc_eqv hf _ _ h1
    · rw [zsu_n _ _ e1]
      exact h1
  · rw [if_neg hq1] at hq
    cases hq
theorem zloop (P : Nat → Prop) (N : Nat) (h : ∀ k : Nat, k ≤ N → (k < N → P (k + 1)) → P k) : ∀ k : Nat, k ≤ N → P k := by
  have key : ∀ m k : Nat, k + m = N → P k := by
    intro m
    induction m with
    | zero => exact fun k hk => h k (by omega) (fun q => by omega)
    | succ m ih => exact fun k hk => h k (by omega) (fun _ => ih (k + 1) (by omega))
  exact fun k hk => key (N - k) k (by omega)
def zsm (f : Int → Int) : Nat → Int
  | 0 => 0
  | k + 1 => zsm f k + f (k : Int)
def zfo {α : Type} (f : α → Int → α) (a : α) : Nat → α
  | 0 => a
  | k + 1 => f (zfo f a k) (k : Int)
/-- a square of entries is laid anew -/
def zsq (e : Int → Int) (row col q : Int) (v : Int → Int) : Int → Int := fun j => if (row ≤ j / 16 ∧ j / 16 < row + q) ∧ col ≤ j % 16 ∧ j % 16 < col + q then v j else e j
def zsp (e : Int → Int) (row col q i k : Int) (v : Int → Int) : Int → Int := fun j => if col ≤ j % 16 ∧ ((row ≤ j / 16 ∧ j / 16 < row + i ∧ j % 16 < col + q) ∨ (j / 16 = row + i ∧ j % 16 < col + k)) then v j else e j
theorem zsp_0 (e : Int → Int) (row col q : Int) (v : Int → Int) : zsp e row col q 0 0 v = e := by
  funext j
  unfold zsp
  rw [if_neg (by omega)]
theorem zsp_s (e : Int → Int) {row col q i k : Int} (v : Int → Int) {x : Int} (hc : 0 ≤ col ∧ 0 ≤ k ∧ k < q ∧ col + q ≤ 16) (hx : x = v ((row + i) * 16 + (col + k))) : zu (zsp e row col q i k v) ((row + i) * 16 + (col + k)) x = zsp e row col q i (k + 1) v := by
  subst hx
  funext j
  unfold zu zsp
  by_cases h : j = (row + i) * 16 + (col + k)
  · rw [if_pos h, if_pos (by omega), h]
  · rw [if_neg h]
    by_cases h2 : col ≤ j % 16 ∧ ((row ≤ j / 16 ∧ j / 16 < row + i ∧ j % 16 < col + q) ∨ (j / 16 = row + i ∧ j % 16 < col + k))
    · rw [if_pos h2, if_pos (by omega)]
    · rw [if_neg h2, if_neg (by omega)]
theorem zsp_r (e : Int → Int) {row col q i : Int} (hi : 0 ≤ i) (v : Int → Int) : zsp e row col q i q v = zsp e row col q (i + 1) 0 v := by
  funext j
  unfold zsp
  by_cases h2 : col ≤ j % 16 ∧ ((row ≤ j / 16 ∧ j / 16 < row + i ∧ j % 16 < col + q) ∨ (j / 16 = row + i ∧ j % 16 < col + q))
  · rw [if_pos h2, if_pos (by omega)]
  · rw [if_neg h2, if_neg (by omega)]
theorem zsp_e (e : Int → Int) (row col q : Int) (v : Int → Int) : zsp e row col q q 0 v = zsq e row col q v := by
  funext j
  unfold zsp zsq
  by_cases h2 : (row ≤ j / 16 ∧ j / 16 < row + q) ∧ col ≤ j % 16 ∧ j % 16 < col + q
  · rw [if_pos h2, if_pos (by omega)]
  · rw [if_neg h2, if_neg (by omega)]
theorem zpart {d row p : Int} (hd : 0 ≤ d ∧ d ≤ 2) (hp : 0 ≤ p ∧ p < 4) (hr : 0 ≤ row ∧ row + zsz d ≤ 16) : (0 ≤ row + p / 2 * zsz (d + 1) ∧ row + p / 2 * zsz (d + 1) + zsz (d + 1) ≤ 16) ∧ 0 ≤ row + p % 2 * zsz (d + 1) ∧ row + p % 2 * zsz (d + 1) + zsz (d + 1) ≤ 16 := by
  have h3 : d = 0 ∨ d = 1 ∨ d = 2 := by omega
  rcases h3 with rfl | rfl | rfl
  · have e0 : zsz 0 = 16 := rfl
    have e1 : zsz (0 + 1) = 8 := rfl
    rw [e0] at hr
    rw [e1]
    omega
  · have e0 : zsz 1 = 8 := rfl
    have e1 : zsz (1 + 1) = 4 := rfl
    rw [e0] at hr
    rw [e1]
    omega
  · have e0 : zsz 2 = 4 := rfl
    have e1 : zsz (2 + 1) = 2 := rfl
    rw [e0] at hr
    rw [e1]
    omega
theorem x_mmax {y : MethodName} {cc : ByteArray} {ml : Nat} {ret : Option FieldType} {h mc ms n0 : Nat} {Ret : zRT} {K : zKT} (C : zX y cc ml ret h mc ms n0 Ret K) {pc : Nat} {Lo : List (Option zV)} {st : List zV} {n : Nat} {σ : zS} {w : Nat} {idx : Nat} {a b : Int} (d : decode cc pc = .ok (.invokestatic idx, 3)) (hw : Cond.methodLink y.cls idx Lib.Math.max.name ∈ zGW ∧ Cond.static Lib.Math.max.name ∈ zGW ∧ Cond.initialized "java/lang/Math" ∈ zGW ∧ Cond.code Lib.Math.max.name Lib.Math.max.code 2 (some .int) ∈ zGW) (h1 : 1 ≤ h) (hc : zcat st ≤ 8) (ha : (-2147483648 ≤ a ∧ a < 2147483648) ∧ -2147483648 ≤ b ∧ b < 2147483648) (k : K (pc + 3) Lo (zi (max a b) :: st) n σ w) : K pc Lo (zi b :: zi a :: st) n σ w := by
  obtain ⟨p, l, e, R, s, m, args, below, meth, c, Q, g, ⟨hx, hb, hml, hown, hts, hK, hin⟩, hR, hsz, rfl, hrt⟩ := C
  intro ls H locs hn hl hP hS
  have k := k ls H locs hn hl hP hS
  have e9 := zcat_eq g st
  refine va_mmax hx hb (by rw [hml]; exact hl.1.symm) hown (hts _ hw.1) (hts _ hw.2.1) (hts _ hw.2.2.1) (hts _ hw.2.2.2) (by omega) (by omega) (by omega) (by omega) d ?_
  have e8 : (if zI a < zI b then zI b else zI a) = zI (max a b) := by
    by_cases q : a < b
    · rw [if_pos ((zI_lt ha).mpr q), show max a b = b by omega]
    · rw [if_neg (fun z => q ((zI_lt ha).mp z)), show max a b = a by omega]
  rw [e8]
  exact k
theorem x_mmin {y : MethodName} {cc : ByteArray} {ml : Nat} {ret : Option FieldType} {h mc ms n0 : Nat} {Ret : zRT} {K : zKT} (C : zX y cc ml ret h mc ms n0 Ret K) {pc : Nat} {Lo : List (Option zV)} {st : List zV} {n : Nat} {σ : zS} {w : Nat} {idx : Nat} {a b : Int} (d : decode cc pc = .ok (.invokestatic idx, 3)) (hw : Cond.methodLink y.cls idx Lib.Math.min.name ∈ zGW ∧ Cond.static Lib.Math.min.name ∈ zGW ∧ Cond.initialized "java/lang/Math" ∈ zGW ∧ Cond.code Lib.Math.min.name Lib.Math.min.code 2 (some .int) ∈ zGW) (h1 : 1 ≤ h) (hc : zcat st ≤ 8) (ha : (-2147483648 ≤ a ∧ a < 2147483648) ∧ -2147483648 ≤ b ∧ b < 2147483648) (k : K (pc + 3) Lo (zi (min a b) :: st) n σ w) : K pc Lo (zi b :: zi a :: st) n σ w := by
  obtain ⟨p, l, e, R, s, m, args, below, meth, c, Q, g, ⟨hx, hb, hml, hown, hts, hK, hin⟩, hR, hsz, rfl, hrt⟩ := C
  intro ls H locs hn hl hP hS
  have k := k ls H locs hn hl hP hS
  have e9 := zcat_eq g st
  refine va_mmin hx hb (by rw [hml]; exact hl.1.symm) hown (hts _ hw.1) (hts _ hw.2.1) (hts _ hw.2.2.1) (hts _ hw.2.2.2) (by omega) (by omega) (by omega) (by omega) d ?_
  have e8 : (if zI b < zI a then zI b else zI a) = zI (min a b) := by
    by_cases q : b < a
    · rw [if_pos ((zI_lt ⟨ha.2, ha.1⟩).mpr q), show min a b = b by omega]
    · rw [if_neg (fun z => q ((zI_lt ⟨ha.2, ha.1⟩).mp z)), show min a b = a by omega]
  rw [e8]
  exact k
theorem x_mabs {y : MethodName} {cc : ByteArray} {ml : Nat} {ret : Option FieldType} {h mc ms n0 : Nat} {Ret : zRT} {K : zKT} (C : zX y cc ml ret h mc ms n0 Ret K) {pc : Nat} {Lo : List (Option zV)} {st : List zV} {n : Nat} {σ : zS} {w : Nat} {idx : Nat} {a : Int} (d : decode cc pc = .ok (.invokestatic idx, 3)) (hw : Cond.methodLink y.cls idx Lib.Math.abs.name ∈ zGW ∧ Cond.static Lib.Math.abs.name ∈ zGW ∧ Cond.initialized "java/lang/Math" ∈ zGW ∧ Cond.code Lib.Math.abs.name Lib.Math.abs.code 1 (some .int) ∈ zGW) (h1 : 1 ≤ h) (hc : zcat st ≤ 8) (ha : -2147483648 ≤ a ∧ a < 2147483648) (k : K (pc + 3) Lo (zi (max a (-a)) :: st) n σ w) : K pc Lo (zi a :: st) n σ w := by
  obtain ⟨p, l, e, R, s, m, args, below, meth, c, Q, g, ⟨hx, hb, hml, hown, hts, hK, hin⟩, hR, hsz, rfl, hrt⟩ := C
  intro ls H locs hn hl hP hS
  have k := k ls H locs hn hl hP hS
  have e9 := zcat_eq g st
  refine va_mabs hx hb (by rw [hml]; exact hl.1.symm) hown (hts _ hw.1) (hts _ hw.2.1) (hts _ hw.2.2.1) (hts _ hw.2.2.2) (by omega) (by omega) (by omega) (by omega) d ?_
  have e8 : (if 0 ≤ zI a then zI a else 0 - zI a) = zI (max a (-a)) := by
    rw [← zI_0]
    by_cases q : 0 ≤ a
    · rw [if_pos ((zI_le (by omega)).mpr q), show max a (-a) = a by omega]
    · rw [if_neg (fun z => q ((zI_le (by omega)).mp z)), ← zI_sub, show max a (-a) = 0 - a by omega]
  rw [e8]
  exact k
theorem x_mabsl {y : MethodName} {cc : ByteArray} {ml : Nat} {ret : Option FieldType} {h mc ms n0 : Nat} {Ret : zRT} {K : zKT} (C : zX y cc ml ret h mc ms n0 Ret K) {pc : Nat} {Lo : List (Option zV)} {st : List zV} {n : Nat} {σ : zS} {w : Nat} {idx : Nat} {a : Int} (d : decode cc pc = .ok (.invokestatic idx, 3)) (hw : Cond.methodLink y.cls idx Lib.MathLoose.abs_long.x ∈ zGW ∧ Cond.static Lib.MathLoose.abs_long.x ∈ zGW ∧ Cond.initialized "java/lang/Math" ∈ zGW ∧ Cond.code Lib.MathLoose.abs_long.x Lib.MathLoose.abs_long.code 2 (some .long) ∈ zGW) (h1 : 1 ≤ h) (hc : zcat st ≤ 8) (ha : -9223372036854775808 ≤ a ∧ a < 9223372036854775808) (k : K (pc + 3) Lo (zl (max a (-a)) :: st) n σ w) : K pc Lo (zl a :: st) n σ w := by
  obtain ⟨p, l, e, R, s, m, args, below, meth, c, Q, g, ⟨hx, hb, hml, hown, hts, hK, hin⟩, hR, hsz, rfl, hrt⟩ := C
  intro ls H locs hn hl hP hS
  have k := k ls H locs hn hl hP hS
  have e9 := zcat_eq g st
  refine va_mabs_long hx hb (by rw [hml]; exact hl.1.symm) hown (hts _ hw.1) (hts _ hw.2.1) (hts _ hw.2.2.1) (hts _ hw.2.2.2) (by omega) (by omega) (by omega) (by omega) d ?_
  have e8 : (if 0 < zJ a then zJ a else -zJ a) = zJ (max a (-a)) := by
    rw [show (0 : Int64) = zJ 0 from rfl]
    by_cases q : 0 < a
    · rw [if_pos ((zJ_lt (by omega)).mpr q), show max a (-a) = a by omega]
    · rw [if_neg (fun z => q ((zJ_lt (by omega)).mp z)), ← zJ_neg, show max a (-a) = -a by omega]
  rw [e8]
  exact k
section
variable {n : Nat} {σ : zS}
theorem ctX1_trace {h : Int} {e t : Int → Int} (hm : isM σ n h e t) : zCt 3 0 0 yX1_trace cX1_trace 3 (some .int) [zr h] n σ (some (zi (zsm (fun k => e (k * 16 + k)) 16))) n σ := by
  obtain ⟨hM, hE, hT, hh⟩ := hm
  refine zCt.of (by decide) rfl (Nat.le_of_ble_eq_true rfl) (fun K C => ?_)
  have loop : ∀ k : Nat, k ≤ 16 → K 4 [some (zr h), some (zi (zsm (fun k => e (k * 16 + k)) k)), some (zi (k : Int))] [] n σ 0 := by
    refine zloop _ 16 (fun k hk ih => ?_)
    refine x_iload_n C dX1_trace_4 rfl ?_
    refine x_bipush C dX1_trace_5 (by decide) ?_
    refine x_icmp_ge (tgt := 25) C dX1_trace_7 (by decide) (by omega) (fun c7 => ?_) (fun c7 => ?_)
    · refine x_iload_n C dX1_trace_25 rfl ?_
      exact x_iret (st := []) C dX1_trace_26 rfl ⟨congrArg (fun z => some (zi z)) (by rw [show k = 16 by omega]), rfl, rfl, rfl⟩
    · refine x_iload_n C dX1_trace_10 rfl ?_
      refine x_aload_n C dX1_trace_11 rfl ?_
      refine x_iload_n C dX1_trace_12 rfl ?_
      refine x_iload_n C dX1_trace_13 rfl ?_
      refine x_callV C dX1_trace_14 (ctX1_entryAt ⟨hM, hE, hT, hh⟩ _ _ (by omega) (by omega)) okX1_entryAt lkX1_96 ⟨⟨hM, rfl, rfl⟩, (by omega)⟩ ⟨by decide, rfl, rfl, Nat.le_of_ble_eq_true rfl⟩ rfl (Or.inl ⟨rfl, rfl⟩) ?_
      refine x_iadd C dX1_trace_17 ?_
      refine x_istore_n C dX1_trace_18 (by decide) ?_
      refine x_iinc C dX1_trace_19 rfl (by decide) ?_
      refine x_goto (tgt := 4) C dX1_trace_22 (by decide) ?_
      exact ih (by omega)
  refine x_iconst C dX1_trace_0 ?_
  refine x_istore_n C dX1_trace_1 (by decide) ?_
  refine x_iconst C dX1_trace_2 ?_
  refine x_istore_n C dX1_trace_3 (by decide) ?_
  exact loop 0 (by omega)
theorem ctX1_sum {h : Int} {e t : Int → Int} (hm : isM σ n h e t) : zCt 1 0 0 yX1_sum cX1_sum 3 (some .int) [zr h] n σ (some (zi (zsm e 256))) n σ := by
  obtain ⟨hM, hE, hT, hh⟩ := hm
  refine zCt.of (by decide) rfl (Nat.le_of_ble_eq_true rfl) (fun K C => ?_)
  have loop : ∀ k : Nat, k ≤ 256 → K 4 [some (zr h), some (zi (zsm e k)), some (zi (k : Int))] [] n σ 0 := by
    refine zloop _ 256 (fun k hk ih => ?_)
    refine x_iload_n C dX1_sum_4 rfl ?_
    refine x_sipush C dX1_sum_5 (by decide) ?_
    refine x_icmp_ge (tgt := 26) C dX1_sum_8 (by decide) (by omega) (fun c8 => ?_) (fun c8 => ?_)
    · refine x_iload_n C dX1_sum_26 rfl ?_
      exact x_iret (st := []) C dX1_sum_27 rfl ⟨congrArg (fun z => some (zi z)) (by rw [show k = 256 by omega]), rfl, rfl, rfl⟩
    · refine x_iload_n C dX1_sum_11 rfl ?_
      refine x_aload_n C dX1_sum_12 rfl ?_
      refine x_getfield C dX1_sum_13 lfX1_9 hM (by omega) rfl ?_
      refine x_iload_n C dX1_sum_16 rfl ?_
      refine x_iaload C dX1_sum_17 hE (by omega) ?_
      refine x_iadd C dX1_sum_18 ?_
      refine x_istore_n C dX1_sum_19 (by decide) ?_
      refine x_iinc C dX1_sum_20 rfl (by decide) ?_
      refine x_goto (tgt := 4) C dX1_sum_23 (by decide) ?_
      exact ih (by omega)
  refine x_iconst C dX1_sum_0 ?_
  refine x_istore_n C dX1_sum_1 (by decide) ?_
  refine x_iconst C dX1_sum_2 ?_
  refine x_istore_n C dX1_sum_3 (by decide) ?_
  exact loop 0 (by omega)
theorem ctX1_filledEntries {h : Int} {e t : Int → Int} (hm : isM σ n h e t) (he : ∀ j, -1000000 ≤ e j ∧ e j ≤ 1000000) : zCt 1 0 0 yX1_filledEntries cX1_filledEntries 3 (some .int) [zr h] n σ (some (zi (zsm (fun j => if e j ≠ 0 then 1 else 0) 256))) n σ := by
  obtain ⟨hM, hE, hT, hh⟩ := hm
  refine zCt.of (by decide) rfl (Nat.le_of_ble_eq_true rfl) (fun K C => ?_)
  have loop : ∀ k : Nat, k ≤ 256 → K 4 [some (zr h), some (zi (zsm (fun j => if e j ≠ 0 then 1 else 0) k)), some (zi (k : Int))] [] n σ 0 := by
    refine zloop _ 256 (fun k hk ih => ?_)
    refine x_iload_n C dX1_filledEntries_4 rfl ?_
    refine x_sipush C dX1_filledEntries_5 (by decide) ?_
    refine x_icmp_ge (tgt := 34) C dX1_filledEntries_8 (by decide) (by omega) (fun c8 => ?_) (fun c8 => ?_)
    · refine x_iload_n C dX1_filledEntries_34 rfl ?_
      exact x_iret (st := []) C dX1_filledEntries_35 rfl ⟨congrArg (fun z => some (zi z)) (by rw [show k = 256 by omega]), rfl, rfl, rfl⟩
    · refine x_iload_n C dX1_filledEntries_11 rfl ?_
      refine x_aload_n C dX1_filledEntries_12 rfl ?_
      refine x_getfield C dX1_filledEntries_13 lfX1_9 hM (by omega) rfl ?_
      refine x_iload_n C dX1_filledEntries_16 rfl ?_
      refine x_iaload C dX1_filledEntries_17 hE (by omega) ?_
      refine x_if_eq (tgt := 25) C dX1_filledEntries_18 (by decide) ⟨by have := (he k).1; omega, by have := (he k).2; omega⟩ (fun c18 => ?_) (fun c18 => ?_)
      · have hstep : zsm (fun j => if e j ≠ 0 then 1 else 0) (k + 1) = zsm (fun j => if e j ≠ 0 then 1 else 0) k + 0 := congrArg (zsm (fun j => if e j ≠ 0 then 1 else 0) k + ·) (if_neg (by omega))
        refine x_iconst C dX1_filledEntries_25 ?_
        refine x_iadd C dX1_filledEntries_26 ?_
        refine x_istore_n C dX1_filledEntries_27 (by decide) ?_
        rw [← hstep]
        refine x_iinc C dX1_filledEntries_28 rfl (by decide) ?_
        refine x_goto (tgt := 4) C dX1_filledEntries_31 (by decide) ?_
        exact ih (by omega)
      · have hstep : zsm (fun j => if e j ≠ 0 then 1 else 0) (k + 1) = zsm (fun j => if e j ≠ 0 then 1 else 0) k + 1 := congrArg (zsm (fun j => if e j ≠ 0 then 1 else 0) k + ·) (if_pos (by omega))
        refine x_iconst C dX1_filledEntries_21 ?_
        refine x_goto (tgt := 26) C dX1_filledEntries_22 (by decide) ?_
        refine x_iadd C dX1_filledEntries_26 ?_
        refine x_istore_n C dX1_filledEntries_27 (by decide) ?_
        rw [← hstep]
        refine x_iinc C dX1_filledEntries_28 rfl (by decide) ?_
        refine x_goto (tgt := 4) C dX1_filledEntries_31 (by decide) ?_
        exact ih (by omega)
  refine x_iconst C dX1_filledEntries_0 ?_
  refine x_istore_n C dX1_filledEntries_1 (by decide) ?_
  refine x_iconst C dX1_filledEntries_2 ?_
  refine x_istore_n C dX1_filledEntries_3 (by decide) ?_
  exact loop 0 (by omega)
end
end
section
section
variable {n : Nat} {σ : zS}
theorem ctX1_greatest {h : Int} {e t : Int → Int} (hm : isM σ n h e t) (he : ∀ j, -1000000 ≤ e j ∧ e j ≤ 1000000) : zCt 2 0 0 yX1_greatest cX1_greatest 3 (some .int) [zr h] n σ (some (zi (zfo (fun m k => max m (e (1 + k))) (e 0) 255))) n σ := by
  obtain ⟨hM, hE, hT, hh⟩ := hm
  have hfo : ∀ k, -1000000 ≤ zfo (fun m k => max m (e (1 + k))) (e 0) k ∧ zfo (fun m k => max m (e (1 + k))) (e 0) k ≤ 1000000 := by
    intro k
    induction k with
    | zero => exact he 0
    | succ k ih =>
      have h1 := he (1 + k)
      show -1000000 ≤ max (zfo (fun m k => max m (e (1 + k))) (e 0) k) (e (1 + k)) ∧ max (zfo (fun m k => max m (e (1 + k))) (e 0) k) (e (1 + k)) ≤ 1000000
      omega
  refine zCt.of (by decide) rfl (Nat.le_of_ble_eq_true rfl) (fun K C => ?_)
  have loop : ∀ k : Nat, k ≤ 255 → K 9 [some (zr h), some (zi (zfo (fun m k => max m (e (1 + k))) (e 0) k)), some (zi (1 + (k : Int)))] [] n σ 0 := by
    refine zloop _ 255 (fun k hk ih => ?_)
    refine x_iload_n C dX1_greatest_9 rfl ?_
    refine x_sipush C dX1_greatest_10 (by decide) ?_
    refine x_icmp_ge (tgt := 33) C dX1_greatest_13 (by decide) (by omega) (fun c13 => ?_) (fun c13 => ?_)
    · refine x_iload_n C dX1_greatest_33 rfl ?_
      exact x_iret (st := []) C dX1_greatest_34 rfl ⟨congrArg (fun z => some (zi z)) (by rw [show k = 255 by omega]), rfl, rfl, rfl⟩
    · refine x_iload_n C dX1_greatest_16 rfl ?_
      refine x_aload_n C dX1_greatest_17 rfl ?_
      refine x_getfield C dX1_greatest_18 lfX1_9 hM (by omega) rfl ?_
      refine x_iload_n C dX1_greatest_21 rfl ?_
      refine x_iaload C dX1_greatest_22 hE (by omega) ?_
      refine x_mmax C dX1_greatest_23 lmX1_46 (by decide) (Nat.le_of_ble_eq_true rfl) ⟨⟨by have := hfo k; omega, by have := hfo k; omega⟩, by have := he (1 + k); omega, by have := he (1 + k); omega⟩ ?_
      refine x_istore_n C dX1_greatest_26 (by decide) ?_
      refine x_iinc C dX1_greatest_27 rfl (by decide) ?_
      refine x_goto (tgt := 9) C dX1_greatest_30 (by decide) ?_
      rw [Int.add_assoc]
      exact ih (by omega)
  refine x_aload_n C dX1_greatest_0 rfl ?_
  refine x_getfield C dX1_greatest_1 lfX1_9 hM (by omega) rfl ?_
  refine x_iconst C dX1_greatest_4 ?_
  refine x_iaload C dX1_greatest_5 hE (by omega) ?_
  refine x_istore_n C dX1_greatest_6 (by decide) ?_
  refine x_iconst C dX1_greatest_7 ?_
  refine x_istore_n C dX1_greatest_8 (by decide) ?_
  exact loop 0 (by omega)
theorem ctX1_least {h : Int} {e t : Int → Int} (hm : isM σ n h e t) (he : ∀ j, -1000000 ≤ e j ∧ e j ≤ 1000000) : zCt 2 0 0 yX1_least cX1_least 3 (some .int) [zr h] n σ (some (zi (zfo (fun m k => min m (e (1 + k))) (e 0) 255))) n σ := by
  obtain ⟨hM, hE, hT, hh⟩ := hm
  have hfo : ∀ k, -1000000 ≤ zfo (fun m k => min m (e (1 + k))) (e 0) k ∧ zfo (fun m k => min m (e (1 + k))) (e 0) k ≤ 1000000 := by
    intro k
    induction k with
    | zero => exact he 0
    | succ k ih =>
      have h1 := he (1 + k)
      show -1000000 ≤ min (zfo (fun m k => min m (e (1 + k))) (e 0) k) (e (1 + k)) ∧ min (zfo (fun m k => min m (e (1 + k))) (e 0) k) (e (1 + k)) ≤ 1000000
      omega
  refine zCt.of (by decide) rfl (Nat.le_of_ble_eq_true rfl) (fun K C => ?_)
  have loop : ∀ k : Nat, k ≤ 255 → K 9 [some (zr h), some (zi (zfo (fun m k => min m (e (1 + k))) (e 0) k)), some (zi (1 + (k : Int)))] [] n σ 0 := by
    refine zloop _ 255 (fun k hk ih => ?_)
    refine x_iload_n C dX1_least_9 rfl ?_
    refine x_sipush C dX1_least_10 (by decide) ?_
    refine x_icmp_ge (tgt := 33) C dX1_least_13 (by decide) (by omega) (fun c13 => ?_) (fun c13 => ?_)
    · refine x_iload_n C dX1_least_33 rfl ?_
      exact x_iret (st := []) C dX1_least_34 rfl ⟨congrArg (fun z => some (zi z)) (by rw [show k = 255 by omega]), rfl, rfl, rfl⟩
    · refine x_iload_n C dX1_least_16 rfl ?_
      refine x_aload_n C dX1_least_17 rfl ?_
      refine x_getfield C dX1_least_18 lfX1_9 hM (by omega) rfl ?_
      refine x_iload_n C dX1_least_21 rfl ?_
      refine x_iaload C dX1_least_22 hE (by omega) ?_
      refine x_mmin C dX1_least_23 lmX1_108 (by decide) (Nat.le_of_ble_eq_true rfl) ⟨⟨by have := hfo k; omega, by have := hfo k; omega⟩, by have := he (1 + k); omega, by have := he (1 + k); omega⟩ ?_
      refine x_istore_n C dX1_least_26 (by decide) ?_
      refine x_iinc C dX1_least_27 rfl (by decide) ?_
      refine x_goto (tgt := 9) C dX1_least_30 (by decide) ?_
      rw [Int.add_assoc]
      exact ih (by omega)
  refine x_aload_n C dX1_least_0 rfl ?_
  refine x_getfield C dX1_least_1 lfX1_9 hM (by omega) rfl ?_
  refine x_iconst C dX1_least_4 ?_
  refine x_iaload C dX1_least_5 hE (by omega) ?_
  refine x_istore_n C dX1_least_6 (by decide) ?_
  refine x_iconst C dX1_least_7 ?_
  refine x_istore_n C dX1_least_8 (by decide) ?_
  exact loop 0 (by omega)
theorem ctX1_greatestDifference {h h2 : Int} {e t e2 t2 : Int → Int} (hm : isM σ n h e t) (hm2 : isM σ n h2 e2 t2) (he : ∀ j, -1000000 ≤ e j ∧ e j ≤ 1000000) (he2 : ∀ j, -1000000 ≤ e2 j ∧ e2 j ≤ 1000000) : zCt 2 0 0 yX1_greatestDifference cX1_greatestDifference 4 (some .int) [zr h, zr h2] n σ (some (zi (zfo (fun m k => max m (max (e k - e2 k) (-(e k - e2 k)))) 0 256))) n σ := by
  obtain ⟨hM, hE, hT, hh⟩ := hm
  obtain ⟨hM2, hE2, hT2, hh2⟩ := hm2
  have hfo : ∀ k, 0 ≤ zfo (fun m k => max m (max (e k - e2 k) (-(e k - e2 k)))) 0 k ∧ zfo (fun m k => max m (max (e k - e2 k) (-(e k - e2 k)))) 0 k ≤ 2000000 := by
    intro k
    induction k with
    | zero => exact ⟨Int.le_refl 0, by show (0 : Int) ≤ 2000000; decide⟩
    | succ k ih =>
      have h1 := he k
      have h3 := he2 k
      show 0 ≤ max (zfo (fun m k => max m (max (e k - e2 k) (-(e k - e2 k)))) 0 k) (max (e k - e2 k) (-(e k - e2 k))) ∧ max (zfo (fun m k => max m (max (e k - e2 k) (-(e k - e2 k)))) 0 k) (max (e k - e2 k) (-(e k - e2 k))) ≤ 2000000
      omega
  refine zCt.of (by decide) rfl (Nat.le_of_ble_eq_true rfl) (fun K C => ?_)
  have loop : ∀ k : Nat, k ≤ 256 → K 4 [some (zr h), some (zr h2), some (zi (zfo (fun m k => max m (max (e k - e2 k) (-(e k - e2 k)))) 0 k)), some (zi (k : Int))] [] n σ 0 := by
    refine zloop _ 256 (fun k hk ih => ?_)
    refine x_iload_n C dX1_greatestDifference_4 rfl ?_
    refine x_sipush C dX1_greatestDifference_5 (by decide) ?_
    refine x_icmp_ge (tgt := 38) C dX1_greatestDifference_8 (by decide) (by omega) (fun c8 => ?_) (fun c8 => ?_)
    · refine x_iload_n C dX1_greatestDifference_38 rfl ?_
      exact x_iret (st := []) C dX1_greatestDifference_39 rfl ⟨congrArg (fun z => some (zi z)) (by rw [show k = 256 by omega]), rfl, rfl, rfl⟩
    · refine x_iload_n C dX1_greatestDifference_11 rfl ?_
      refine x_aload_n C dX1_greatestDifference_12 rfl ?_
      refine x_getfield C dX1_greatestDifference_13 lfX1_9 hM (by omega) rfl ?_
      refine x_iload_n C dX1_greatestDifference_16 rfl ?_
      refine x_iaload C dX1_greatestDifference_17 hE (by omega) ?_
      refine x_aload_n C dX1_greatestDifference_18 rfl ?_
      refine x_getfield C dX1_greatestDifference_19 lfX1_9 hM2 (by omega) rfl ?_
      refine x_iload_n C dX1_greatestDifference_22 rfl ?_
      refine x_iaload C dX1_greatestDifference_23 hE2 (by omega) ?_
      refine x_isub C dX1_greatestDifference_24 ?_
      refine x_mabs C dX1_greatestDifference_25 lmX1_119 (by decide) (Nat.le_of_ble_eq_true rfl) ⟨by have := he k; have := he2 k; omega, by have := he k; have := he2 k; omega⟩ ?_
      refine x_mmax C dX1_greatestDifference_28 lmX1_46 (by decide) (Nat.le_of_ble_eq_true rfl) (by have := hfo k; have := he k; have := he2 k; omega) ?_
      refine x_istore_n C dX1_greatestDifference_31 (by decide) ?_
      refine x_iinc C dX1_greatestDifference_32 rfl (by decide) ?_
      refine x_goto (tgt := 4) C dX1_greatestDifference_35 (by decide) ?_
      exact ih (by omega)
  refine x_iconst C dX1_greatestDifference_0 ?_
  refine x_istore_n C dX1_greatestDifference_1 (by decide) ?_
  refine x_iconst C dX1_greatestDifference_2 ?_
  refine x_istore_n C dX1_greatestDifference_3 (by decide) ?_
  exact loop 0 (by omega)
theorem ctX1_isItsTurned {h : Int} {e t : Int → Int} (hm : isM σ n h e t) (he : ∀ j, -1000000 ≤ e j ∧ e j ≤ 1000000) {b : Bool} (hb : b = true ↔ ∀ i j : Nat, j < i → i < 16 → e ((i : Int) * 16 + j) = e ((j : Int) * 16 + i)) : zCt 3 0 0 yX1_isItsTurned cX1_isItsTurned 3 (some .boolean) [zr h] n σ (some (zi (zb b))) n σ := by
  obtain ⟨hM, hE, hT, hh⟩ := hm
  refine zCt.of (by decide) rfl (Nat.le_of_ble_eq_true rfl) (fun K C => ?_)
  have loop : ∀ i : Nat, i ≤ 16 → (∀ i2 j : Nat, j < i2 → i2 < i → e ((i2 : Int) * 16 + j) = e ((j : Int) * 16 + i2)) → K 2 [some (zr h), some (zi (i : Int)), none] [] n σ 0 := by
    refine zloop _ 16 (fun i hi ih hall => ?_)
    have loop2 : i < 16 → ∀ j : Nat, j ≤ i → (∀ j2 : Nat, j2 < j → e ((i : Int) * 16 + j2) = e ((j2 : Int) * 16 + i)) → K 10 [some (zr h), some (zi (i : Int)), some (zi (j : Int))] [] n σ 0 := by
      intro hi2
      refine zloop _ i (fun j hj ih2 hall2 => ?_)
      refine x_iload_n C dX1_isItsTurned_10 rfl ?_
      refine x_iload_n C dX1_isItsTurned_11 rfl ?_
      refine x_icmp_ge (tgt := 38) C dX1_isItsTurned_12 (by decide) (by omega) (fun c12 => ?_) (fun c12 => ?_)
      · refine x_iinc C dX1_isItsTurned_38 rfl (by decide) ?_
        refine x_goto (tgt := 2) C dX1_isItsTurned_41 (by decide) ?_
        refine x_weak C (Lo' := [some (zr h), some (zi ((i + 1 : Nat) : Int)), none]) (fun q u hq => by match q, hq with | 0, hq => exact hq | 1, hq => exact hq | q + 3, hq => exact absurd hq (by simp [zg])) ?_
        exact ih (by omega) (fun i2 j2 h1 h2 => by
          rcases Nat.lt_or_ge i2 i with q | q
          · exact hall i2 j2 h1 q
          · have e1 : i2 = i := by omega
            subst e1
            exact hall2 j2 (by omega))
      · refine x_aload_n C dX1_isItsTurned_15 rfl ?_
        refine x_iload_n C dX1_isItsTurned_16 rfl ?_
        refine x_iload_n C dX1_isItsTurned_17 rfl ?_
        refine x_callV C dX1_isItsTurned_18 (ctX1_entryAt ⟨hM, hE, hT, hh⟩ _ _ (by omega) (by omega)) okX1_entryAt lkX1_96 ⟨⟨hM, rfl, rfl⟩, (by omega)⟩ ⟨by decide, rfl, rfl, Nat.le_of_ble_eq_true rfl⟩ rfl (Or.inl ⟨rfl, rfl⟩) ?_
        refine x_aload_n C dX1_isItsTurned_21 rfl ?_
        refine x_iload_n C dX1_isItsTurned_22 rfl ?_
        refine x_iload_n C dX1_isItsTurned_23 rfl ?_
        refine x_callV C dX1_isItsTurned_24 (ctX1_entryAt ⟨hM, hE, hT, hh⟩ _ _ (by omega) (by omega)) okX1_entryAt lkX1_96 ⟨⟨hM, rfl, rfl⟩, (by omega)⟩ ⟨by decide, rfl, rfl, Nat.le_of_ble_eq_true rfl⟩ rfl (Or.inl ⟨rfl, rfl⟩) ?_
        refine x_icmp_eq (tgt := 32) C dX1_isItsTurned_27 (by decide) (by have := he (i * 16 + j); have := he (j * 16 + i); omega) (fun c27 => ?_) (fun c27 => ?_)
        · refine x_iinc C dX1_isItsTurned_32 rfl (by decide) ?_
          refine x_goto (tgt := 10) C dX1_isItsTurned_35 (by decide) ?_
          exact ih2 (by omega) (fun j2 hj2 => by
            rcases Nat.lt_or_ge j2 j with q | q
            · exact hall2 j2 q
            · rw [show j2 = j by omega]; exact c27)
        · refine x_iconst C dX1_isItsTurned_30 ?_
          exact x_zret (st := []) (b := false) C dX1_isItsTurned_31 rfl ⟨congrArg (fun z => some (zi (zb z))) (Bool.eq_false_iff.mpr (fun q => c27 (hb.mp q i j (by omega) (by omega)))).symm, rfl, rfl, rfl⟩
    refine x_iload_n C dX1_isItsTurned_2 rfl ?_
    refine x_bipush C dX1_isItsTurned_3 (by decide) ?_
    refine x_icmp_ge (tgt := 44) C dX1_isItsTurned_5 (by decide) (by omega) (fun c5 => ?_) (fun c5 => ?_)
    · refine x_iconst C dX1_isItsTurned_44 ?_
      exact x_zret (st := []) (b := true) C dX1_isItsTurned_45 rfl ⟨congrArg (fun z => some (zi (zb z))) (hb.mpr (fun a b h1 h2 => hall a b h1 (by omega))).symm, rfl, rfl, rfl⟩
    · refine x_iconst C dX1_isItsTurned_8 ?_
      refine x_istore_n C dX1_isItsTurned_9 (by decide) ?_
      exact loop2 (by omega) 0 (by omega) (fun j2 hj2 => absurd hj2 (by omega))
  refine x_iconst C dX1_isItsTurned_0 ?_
  refine x_istore_n C dX1_isItsTurned_1 (by decide) ?_
  exact loop 0 (by omega) (fun i2 j h1 h2 => absurd h2 (by omega))
theorem ctX1_become {h h2 : Int} {e t e2 t2 : Int → Int} (hm : isM σ n h e t) (hm2 : isM σ n h2 e2 t2) (hd : h2 + 2 < h ∨ h + 2 < h2) : zCt 1 0 0 yX1_become cX1_become 2 none [zr h, zr h2] n σ none n (zsu (zsu σ (h + 1) (zA 256 e2)) (h + 2) (zA 85 t2)) := by
  obtain ⟨hM, hE, hT, hh⟩ := hm
  obtain ⟨hM2, hE2, hT2, hh2⟩ := hm2
  refine zCt.of (by decide) rfl (Nat.le_of_ble_eq_true rfl) (fun K C => ?_)
  refine x_aload_n C dX1_become_0 rfl ?_
  refine x_getfield C dX1_become_1 lfX1_9 hM2 (by omega) rfl ?_
  refine x_iconst C dX1_become_4 ?_
  refine x_aload_n C dX1_become_5 rfl ?_
  refine x_getfield C dX1_become_6 lfX1_9 hM (by omega) rfl ?_
  refine x_iconst C dX1_become_9 ?_
  refine x_sipush C dX1_become_10 (by decide) ?_
  refine x_acopy C dX1_become_13 laX1_18 (by decide) hE2 hE (by omega) (Nat.le_of_ble_eq_true rfl) ?_
  refine x_nm (fun s13 e13 => ?_)
  have hM := (congrFun e13 h).trans ((zsu_n _ _ (by omega)).trans hM)
  have hE := (congrFun e13 (h+1)).trans (zsu_s _ _ _)
  have hT := (congrFun e13 (h+2)).trans ((zsu_n _ _ (by omega)).trans hT)
  have hM2 := (congrFun e13 h2).trans ((zsu_n _ _ (by omega)).trans hM2)
  have hE2 := (congrFun e13 (h2+1)).trans ((zsu_n _ _ (by omega)).trans hE2)
  have hT2 := (congrFun e13 (h2+2)).trans ((zsu_n _ _ (by omega)).trans hT2)
  refine x_sim C e2 hE (fun j h1 h2 => by rw [if_pos (by omega)]; congr 1; omega) (x_nm (fun s14 e14 => ?_))
  have hE := (congrFun e14 (h + 1)).trans (zsu_s _ _ _)
  have hM := (congrFun e14 h).trans ((zsu_n _ _ (by omega)).trans hM)
  have hT := (congrFun e14 (h + 2)).trans ((zsu_n _ _ (by omega)).trans hT)
  have hM2 := (congrFun e14 h2).trans ((zsu_n _ _ (by omega)).trans hM2)
  have hE2 := (congrFun e14 (h2 + 1)).trans ((zsu_n _ _ (by omega)).trans hE2)
  have hT2 := (congrFun e14 (h2 + 2)).trans ((zsu_n _ _ (by omega)).trans hT2)
  refine x_aload_n C dX1_become_16 rfl ?_
  refine x_getfield C dX1_become_17 lfX1_15 hM2 (by omega) rfl ?_
  refine x_iconst C dX1_become_20 ?_
  refine x_aload_n C dX1_become_21 rfl ?_
  refine x_getfield C dX1_become_22 lfX1_15 hM (by omega) rfl ?_
  refine x_iconst C dX1_become_25 ?_
  refine x_bipush C dX1_become_26 (by decide) ?_
  refine x_acopy C dX1_become_28 laX1_18 (by decide) hT2 hT (by omega) (Nat.le_of_ble_eq_true rfl) ?_
  refine x_nm (fun s28 e28 => ?_)
  have hM := (congrFun e28 h).trans ((zsu_n _ _ (by omega)).trans hM)
  have hE := (congrFun e28 (h+1)).trans ((zsu_n _ _ (by omega)).trans hE)
  have hT := (congrFun e28 (h+2)).trans (zsu_s _ _ _)
  have hM2 := (congrFun e28 h2).trans ((zsu_n _ _ (by omega)).trans hM2)
  have hE2 := (congrFun e28 (h2+1)).trans ((zsu_n _ _ (by omega)).trans hE2)
  have hT2 := (congrFun e28 (h2+2)).trans ((zsu_n _ _ (by omega)).trans hT2)
  refine x_sim C t2 hT (fun j h1 h2 => by rw [if_pos (by omega)]; congr 1; omega) (x_nm (fun s29 e29 => ?_))
  exact x_vret (st := []) C dX1_become_31 rfl ⟨rfl, rfl, by rw [e29, e28, e14, e13, zsu_u, zsu_u], rfl⟩
end
end
section
/-- a matrix gets new tables -/
def sM (σ : zS) (h : Int) (e t : Int → Int) : zS := zsu (zsu σ (h + 1) (zA 256 e)) (h + 2) (zA 85 t)
theorem sM_o (σ : zS) {h k : Int} (e t : Int → Int) (hk : k ≠ h + 1 ∧ k ≠ h + 2) : sM σ h e t k = σ k := by
  unfold sM
  rw [zsu_n _ _ hk.2, zsu_n _ _ hk.1]
theorem isM_s {σ : zS} {n : Nat} {h : Int} {e t : Int → Int} (hm : isM σ n h e t) (e2 t2 : Int → Int) : isM (sM σ h e2 t2) n h e2 t2 := by
  obtain ⟨h1, h2, h3, h4⟩ := hm
  refine ⟨(sM_o σ e2 t2 (by omega)).trans h1, ?_, zsu_s _ _ _, h4⟩
  unfold sM
  rw [zsu_n _ _ (by omega), zsu_s]
theorem isM_o {σ : zS} {n : Nat} {h h2 : Int} {e2 t2 : Int → Int} (hm : isM σ n h2 e2 t2) (hd : h2 + 2 < h ∨ h + 2 < h2) (e t : Int → Int) : isM (sM σ h e t) n h2 e2 t2 := by
  obtain ⟨h1, h3, h4, h5⟩ := hm
  exact ⟨(sM_o σ e t (by omega)).trans h1, (sM_o σ e t (by omega)).trans h3, (sM_o σ e t (by omega)).trans h4, h5⟩
theorem sM_e (σ : zS) (h : Int) (e t e2 : Int → Int) : zsu (sM σ h e t) (h + 1) (zA 256 e2) = sM σ h e2 t := by
  unfold sM
  rw [zsu_comm _ _ _ (show h + 2 ≠ h + 1 by omega), zsu_u]
theorem sM_t (σ : zS) (h : Int) (e t t2 : Int → Int) : zsu (sM σ h e t) (h + 2) (zA 85 t2) = sM σ h e t2 := by
  unfold sM
  rw [zsu_u]
theorem sM_sM (σ : zS) (h : Int) (e t e2 t2 : Int → Int) : sM (sM σ h e t) h e2 t2 = sM σ h e2 t2 := by
  show zsu (zsu (sM σ h e t) (h + 1) (zA 256 e2)) (h + 2) (zA 85 t2) = _
  rw [sM_e, sM_t]
theorem sM_self {σ : zS} {n : Nat} {h : Int} {e t : Int → Int} (hm : isM σ n h e t) : sM σ h e t = σ := by
  unfold sM
  rw [zsu_self hm.2.1, zsu_self hm.2.2.1]
theorem sM_e0 {σ : zS} {n : Nat} {h : Int} {e t : Int → Int} (hm : isM σ n h e t) (e2 : Int → Int) : zsu σ (h + 1) (zA 256 e2) = sM σ h e2 t := by
  rw [← sM_e σ h e t, sM_self hm]
theorem sM_t0 {σ : zS} {n : Nat} {h : Int} {e t : Int → Int} (hm : isM σ n h e t) (t2 : Int → Int) : zsu σ (h + 2) (zA 85 t2) = sM σ h e t2 := by
  rw [← sM_t σ h e t, sM_self hm]
theorem zmul16 {i k q : Int} (hi : 0 ≤ i ∧ i < q) (hk : 0 ≤ k ∧ k < q) (hq : q ≤ 16) : 0 ≤ i * q + k ∧ i * q + k < 256 := by
  have h1 : i * q ≤ 15 * q := Int.mul_le_mul_of_nonneg_right (by omega) (by omega)
  have h2 : 0 ≤ i * q := Int.mul_nonneg hi.1 (by omega)
  omega
theorem zszN {d : Int} (h : 0 ≤ d ∧ d ≤ 3) : ∃ q : Nat, zsz d = q ∧ 2 ≤ q ∧ q ≤ 16 := ⟨(zsz d).toNat, by have := zsz_v h; omega, by have := zsz_v h; omega, by have := zsz_v h; omega⟩
def zSt (t : Int → Int) : Prop := ∀ j, 0 ≤ t j ∧ t j ≤ 3
theorem zSt.u {t : Int → Int} (h : zSt t) (k : Int) {x : Int} (hx : 0 ≤ x ∧ x ≤ 3) : zSt (zu t k x) := by
  intro j
  unfold zu
  by_cases e : j = k
  · rw [if_pos e]; exact hx
  · rw [if_neg e]; exact h j
section
variable {n : Nat} {σ : zS}
theorem ctX1_setSort2 {h : Int} {e t : Int → Int} (hm : isM σ n h e t) (d row col x : Int) (hd : 0 ≤ d ∧ d ≤ 3) (hr : 0 ≤ row ∧ row < 16) (hc : 0 ≤ col ∧ col < 16) : zCt 2 0 0 yX1_setSort cX1_setSort 5 none [zr h, zi d, zi row, zi col, zi x] n σ none n (sM σ h e (zu t (zno d row col) x)) := by
  have := ctX1_setSort hm d row col x hd hr hc
  rwa [sM_t0 hm] at this
theorem ctX1_become2 {h h2 : Int} {e t e2 t2 : Int → Int} (hm : isM σ n h e t) (hm2 : isM σ n h2 e2 t2) (hd : h2 + 2 < h ∨ h + 2 < h2) : zCt 1 0 0 yX1_become cX1_become 2 none [zr h, zr h2] n σ none n (sM σ h e2 t2) := ctX1_become hm hm2 hd
theorem ctX1_setEmpty {h : Int} {e t : Int → Int} (hm : isM σ n h e t) (d row col : Int) (hd : 0 ≤ d ∧ d ≤ 3) (hr : 0 ≤ row ∧ row + zsz d ≤ 16) (hc : 0 ≤ col ∧ col + zsz d ≤ 16) : zCt 3 0 0 yX1_setEmpty cX1_setEmpty 7 none [zr h, zi d, zi row, zi col] n σ none n (sM σ h (zsq e row col (zsz d) (fun _ => 0)) (zu t (zno d row col) 0)) := by
  obtain ⟨q, hq, hq2, hq16⟩ := zszN hd
  rw [hq] at hr hc ⊢
  refine zCt.of (by decide) rfl (Nat.le_of_ble_eq_true rfl) (fun K C => ?_)
  have loop : ∀ i : Nat, i ≤ q → K 17 [some (zr h), some (zi d), some (zi row), some (zi col), some (zi (q : Int)), some (zi (i : Int)), none] [] n (sM σ h (zsp e row col q i 0 (fun _ => 0)) (zu t (zno d row col) 0)) 0 := by
    refine zloop _ q (fun i hi ih => ?_)
    have loop2 : i < q → ∀ k : Nat, k ≤ q → K 27 [some (zr h), some (zi d), some (zi row), some (zi col), some (zi (q : Int)), some (zi (i : Int)), some (zi (k : Int))] [] n (sM σ h (zsp e row col q i k (fun _ => 0)) (zu t (zno d row col) 0)) 0 := by
      intro hi2
      refine zloop _ q (fun k hk ih2 => ?_)
      obtain ⟨hM, hE, hT, hh⟩ := isM_s hm (zsp e row col q i k (fun _ => 0)) (zu t (zno d row col) 0)
      refine x_iload C dX1_setEmpty_27 rfl ?_
      refine x_iload C dX1_setEmpty_29 rfl ?_
      refine x_icmp_ge (tgt := 57) C dX1_setEmpty_31 (by decide) (by omega) (fun c31 => ?_) (fun c31 => ?_)
      · refine x_iinc C dX1_setEmpty_57 rfl (by decide) ?_
        refine x_goto (tgt := 17) C dX1_setEmpty_60 (by decide) ?_
        rw [show k = q by omega, zsp_r e (by omega)]
        refine x_weak C (Lo' := [some (zr h), some (zi d), some (zi row), some (zi col), some (zi (q : Int)), some (zi ((i + 1 : Nat) : Int)), none]) (fun j u hj => by match j, hj with | 0, hj => exact hj | 1, hj => exact hj | 2, hj => exact hj | 3, hj => exact hj | 4, hj => exact hj | 5, hj => exact hj | j + 7, hj => exact absurd hj (by simp [zg])) ?_
        exact ih (by omega)
      · refine x_aload_n C dX1_setEmpty_34 rfl ?_
        refine x_getfield C dX1_setEmpty_35 lfX1_9 hM (by omega) rfl ?_
        refine x_iload_n C dX1_setEmpty_38 rfl ?_
        refine x_iload C dX1_setEmpty_39 rfl ?_
        refine x_iadd C dX1_setEmpty_41 ?_
        refine x_iload_n C dX1_setEmpty_42 rfl ?_
        refine x_iload C dX1_setEmpty_43 rfl ?_
        refine x_iadd C dX1_setEmpty_45 ?_
        refine x_callS C dX1_setEmpty_46 (ctX1_cellOf _ _) okX1_cellOf lkX1_28 ⟨by decide, rfl, rfl, Nat.le_of_ble_eq_true rfl⟩ rfl (Or.inl ⟨rfl, rfl⟩) ?_
        refine x_iconst C dX1_setEmpty_49 ?_
        refine x_iastore C dX1_setEmpty_50 hE (by omega) ?_
        rw [sM_e, zsp_s e (fun _ => 0) (by omega) rfl]
        refine x_iinc C dX1_setEmpty_51 rfl (by decide) ?_
        refine x_goto (tgt := 27) C dX1_setEmpty_54 (by decide) ?_
        exact ih2 (by omega)
    refine x_iload C dX1_setEmpty_17 rfl ?_
    refine x_iload C dX1_setEmpty_19 rfl ?_
    refine x_icmp_ge (tgt := 63) C dX1_setEmpty_21 (by decide) (by omega) (fun c21 => ?_) (fun c21 => ?_)
    · exact x_vret (st := []) C dX1_setEmpty_63 rfl ⟨rfl, rfl, by rw [show i = q by omega, zsp_e], rfl⟩
    · refine x_iconst C dX1_setEmpty_24 ?_
      refine x_istore C dX1_setEmpty_25 (by decide) ?_
      exact loop2 (by omega) 0 (by omega)
  obtain ⟨hM, hE, hT, hh⟩ := hm
  have hm : isM σ n h e t := ⟨hM, hE, hT, hh⟩
  refine x_aload_n C dX1_setEmpty_0 rfl ?_
  refine x_iload_n C dX1_setEmpty_1 rfl ?_
  refine x_iload_n C dX1_setEmpty_2 rfl ?_
  refine x_iload_n C dX1_setEmpty_3 rfl ?_
  refine x_iconst C dX1_setEmpty_4 ?_
  refine x_callV C dX1_setEmpty_5 (ctX1_setSort2 hm d row col 0 hd (by omega) (by omega)) okX1_setSort lkX1_71 ⟨⟨hM, rfl, rfl⟩, (by omega)⟩ ⟨by decide, rfl, rfl, Nat.le_of_ble_eq_true rfl⟩ rfl (Or.inl ⟨rfl, rfl⟩) ?_
  refine x_iload_n C dX1_setEmpty_8 rfl ?_
  refine x_callSN C dX1_setEmpty_9 (ctX5_sizeAt d hd) okX5_sizeAt nkX1_24 ⟨by decide, rfl, rfl, Nat.le_of_ble_eq_true rfl⟩ rfl (Or.inl ⟨rfl, rfl⟩) ?_
  refine x_istore C dX1_setEmpty_12 (by decide) ?_
  refine x_iconst C dX1_setEmpty_14 ?_
  refine x_istore C dX1_setEmpty_15 (by decide) ?_
  rw [hq]
  have l0 := loop 0 (by omega)
  rw [show ((0 : Nat) : Int) = 0 from rfl, zsp_0] at l0
  exact l0
def zdp (t : Int → Int) (row col : Int) : Int := if t (zno 0 row col) = 3 then (if t (zno 1 row col) = 3 then (if t (zno 2 row col) = 3 then 3 else 2) else 1) else 0
theorem zdp_of {t : Int → Int} {row col : Int} {k : Nat} (hk : k ≤ 3) (hall : ∀ j : Nat, j < k → t (zno j row col) = 3) (hs : ¬ ((k : Int) < 3 ∧ t (zno k row col) = 3)) : zdp t row col = k := by
  have a0 : 0 < k → t (zno 0 row col) = 3 := hall 0
  have a1 : 1 < k → t (zno 1 row col) = 3 := hall 1
  have a2 : 2 < k → t (zno 2 row col) = 3 := hall 2
  unfold zdp
  have hk4 : k = 0 ∨ k = 1 ∨ k = 2 ∨ k = 3 := by omega
  rcases hk4 with rfl | rfl | rfl | rfl
  · have z : ¬ t (zno 0 row col) = 3 := fun q => hs ⟨by decide, q⟩
    rw [if_neg z]; rfl
  · have z : ¬ t (zno 1 row col) = 3 := fun q => hs ⟨by decide, q⟩
    rw [if_pos (a0 (by omega)), if_neg z]; rfl
  · have z : ¬ t (zno 2 row col) = 3 := fun q => hs ⟨by decide, q⟩
    rw [if_pos (a0 (by omega)), if_pos (a1 (by omega)), if_neg z]; rfl
  · rw [if_pos (a0 (by omega)), if_pos (a1 (by omega)), if_pos (a2 (by omega))]; rfl
theorem zdp_in (t : Int → Int) (row col : Int) : 0 ≤ zdp t row col ∧ zdp t row col ≤ 3 := by
  unfold zdp
  repeat' split
  all_goals decide
theorem ctX1_depthOf {h : Int} {e t : Int → Int} (hm : isM σ n h e t) (ht : zSt t) (row col : Int) (hr : 0 ≤ row ∧ row < 16) (hc : 0 ≤ col ∧ col < 16) : zCt 4 0 0 yX1_depthOf cX1_depthOf 4 (some .int) [zr h, zi row, zi col] n σ (some (zi (zdp t row col))) n σ := by
  obtain ⟨hM, hE, hT, hh⟩ := hm
  refine zCt.of (by decide) rfl (Nat.le_of_ble_eq_true rfl) (fun K C => ?_)
  have loop : ∀ k : Nat, k ≤ 3 → (∀ j : Nat, j < k → t (zno j row col) = 3) → K 2 [some (zr h), some (zi row), some (zi col), some (zi (k : Int))] [] n σ 0 := by
    refine zloop _ 3 (fun k hk ih hall => ?_)
    refine x_iload_n C dX1_depthOf_2 rfl ?_
    refine x_iconst C dX1_depthOf_3 ?_
    refine x_icmp_ge (tgt := 23) C dX1_depthOf_4 (by decide) (by omega) (fun c4 => ?_) (fun c4 => ?_)
    · refine x_iload_n C dX1_depthOf_23 rfl ?_
      exact x_iret (st := []) C dX1_depthOf_24 rfl ⟨congrArg (fun z => some (zi z)) (zdp_of hk hall (by omega)).symm, rfl, rfl, rfl⟩
    · refine x_aload_n C dX1_depthOf_7 rfl ?_
      refine x_iload_n C dX1_depthOf_8 rfl ?_
      refine x_iload_n C dX1_depthOf_9 rfl ?_
      refine x_iload_n C dX1_depthOf_10 rfl ?_
      refine x_callV C dX1_depthOf_11 (ctX1_isCut ⟨hM, hE, hT, hh⟩ ht _ row col (by omega) hr hc) okX1_isCut lkX1_39 ⟨⟨hM, rfl, rfl⟩, (by omega)⟩ ⟨by decide, rfl, rfl, Nat.le_of_ble_eq_true rfl⟩ rfl (Or.inl ⟨rfl, rfl⟩) ?_
      refine x_ifeq_d (tgt := 23) C dX1_depthOf_14 (by decide) (fun c14 => ?_) (fun c14 => ?_)
      · refine x_iload_n C dX1_depthOf_23 rfl ?_
        exact x_iret (st := []) C dX1_depthOf_24 rfl ⟨congrArg (fun z => some (zi z)) (zdp_of hk hall (by omega)).symm, rfl, rfl, rfl⟩
      · refine x_iinc C dX1_depthOf_17 rfl (by decide) ?_
        refine x_goto (tgt := 2) C dX1_depthOf_20 (by decide) ?_
        exact ih (by omega) (fun j hj => by
          rcases Nat.lt_or_ge j k with q | q
          · exact hall j q
          · rw [show j = k by omega]; exact c14.2)
  refine x_iconst C dX1_depthOf_0 ?_
  refine x_istore_n C dX1_depthOf_1 (by decide) ?_
  exact loop 0 (by omega) (fun j hj => absurd hj (by omega))
end
end
section
section
variable {n : Nat} {σ : zS}
theorem zfl {e d : Int} (hd : 0 ≤ d ∧ d ≤ 3) (he : 0 ≤ e ∧ e < 16) : 0 ≤ e / zsz d * zsz d ∧ e / zsz d * zsz d + zsz d ≤ 16 ∧ e / zsz d * zsz d ≤ e ∧ e < e / zsz d * zsz d + zsz d := by
  rcases zsz_v hd with ⟨-, q⟩ | ⟨-, q⟩ | ⟨-, q⟩ | ⟨-, q⟩ <;> rw [q] <;> omega
theorem ctX1_emptyBlockOf {h : Int} {e t : Int → Int} (hm : isM σ n h e t) (ht : zSt t) (row col : Int) (hr : 0 ≤ row ∧ row < 16) (hc : 0 ≤ col ∧ col < 16) : zCt 5 0 0 yX1_emptyBlockOf cX1_emptyBlockOf 4 (some .int) [zr h, zi row, zi col] n σ (some (zi (zsz (zdp t row col)))) n (sM σ h (zsq e (row / zsz (zdp t row col) * zsz (zdp t row col)) (col / zsz (zdp t row col) * zsz (zdp t row col)) (zsz (zdp t row col)) (fun _ => 0)) (zu t (zno (zdp t row col) (row / zsz (zdp t row col) * zsz (zdp t row col)) (col / zsz (zdp t row col) * zsz (zdp t row col))) 0)) := by
  obtain ⟨hM, hE, hT, hh⟩ := hm
  have hz := zdp_in t row col
  have h1 := zfl hz hr
  have h2 := zfl hz hc
  refine zCt.of (by decide) rfl (Nat.le_of_ble_eq_true rfl) (fun K C => ?_)
  refine x_aload_n C dX1_emptyBlockOf_0 rfl ?_
  refine x_iload_n C dX1_emptyBlockOf_1 rfl ?_
  refine x_iload_n C dX1_emptyBlockOf_2 rfl ?_
  refine x_callV C dX1_emptyBlockOf_3 (ctX1_depthOf ⟨hM, hE, hT, hh⟩ ht row col hr hc) okX1_depthOf lkX1_43 ⟨⟨hM, rfl, rfl⟩, (by omega)⟩ ⟨by decide, rfl, rfl, Nat.le_of_ble_eq_true rfl⟩ rfl (Or.inl ⟨rfl, rfl⟩) ?_
  refine x_istore_n C dX1_emptyBlockOf_6 (by decide) ?_
  refine x_aload_n C dX1_emptyBlockOf_7 rfl ?_
  refine x_iload_n C dX1_emptyBlockOf_8 rfl ?_
  refine x_iload_n C dX1_emptyBlockOf_9 rfl ?_
  refine x_iload_n C dX1_emptyBlockOf_10 rfl ?_
  refine x_callSN C dX1_emptyBlockOf_11 (ctX5_firstOf _ row hz hr) okX5_firstOf nkX1_75 ⟨by decide, rfl, rfl, Nat.le_of_ble_eq_true rfl⟩ rfl (Or.inl ⟨rfl, rfl⟩) ?_
  refine x_iload_n C dX1_emptyBlockOf_14 rfl ?_
  refine x_iload_n C dX1_emptyBlockOf_15 rfl ?_
  refine x_callSN C dX1_emptyBlockOf_16 (ctX5_firstOf _ col hz hc) okX5_firstOf nkX1_75 ⟨by decide, rfl, rfl, Nat.le_of_ble_eq_true rfl⟩ rfl (Or.inl ⟨rfl, rfl⟩) ?_
  refine x_callV C dX1_emptyBlockOf_19 (ctX1_setEmpty ⟨hM, hE, hT, hh⟩ _ _ _ hz ⟨h1.1, h1.2.1⟩ ⟨h2.1, h2.2.1⟩) okX1_setEmpty lkX1_78 ⟨⟨hM, rfl, rfl⟩, (by omega)⟩ ⟨by decide, rfl, rfl, Nat.le_of_ble_eq_true rfl⟩ rfl (Or.inl ⟨rfl, rfl⟩) ?_
  refine x_iload_n C dX1_emptyBlockOf_22 rfl ?_
  refine x_callSN C dX1_emptyBlockOf_23 (ctX5_sizeAt _ hz) okX5_sizeAt nkX1_24 ⟨by decide, rfl, rfl, Nat.le_of_ble_eq_true rfl⟩ rfl (Or.inl ⟨rfl, rfl⟩) ?_
  exact x_iret (st := []) C dX1_emptyBlockOf_26 rfl ⟨congrArg (fun z => some (zi z)) (by first | rfl | omega), rfl, rfl, rfl⟩
theorem ctX1_deepest {h : Int} {e t : Int → Int} (hm : isM σ n h e t) (ht : zSt t) : zCt 5 0 0 yX1_deepest cX1_deepest 3 (some .int) [zr h] n σ (some (zi (zfo (fun m k => max m (zdp t (k / 16) (k % 16))) 0 256))) n σ := by
  obtain ⟨hM, hE, hT, hh⟩ := hm
  have hfo : ∀ k, 0 ≤ zfo (fun m k => max m (zdp t (k / 16) (k % 16))) 0 k ∧ zfo (fun m k => max m (zdp t (k / 16) (k % 16))) 0 k ≤ 3 := by
    intro k
    induction k with
    | zero => exact ⟨Int.le_refl 0, by show (0 : Int) ≤ 3; decide⟩
    | succ k ih =>
      have h1 := zdp_in t ((k : Int) / 16) ((k : Int) % 16)
      show 0 ≤ max (zfo (fun m k => max m (zdp t (k / 16) (k % 16))) 0 k) (zdp t (k / 16) (k % 16)) ∧ max (zfo (fun m k => max m (zdp t (k / 16) (k % 16))) 0 k) (zdp t (k / 16) (k % 16)) ≤ 3
      omega
  refine zCt.of (by decide) rfl (Nat.le_of_ble_eq_true rfl) (fun K C => ?_)
  have loop : ∀ k : Nat, k ≤ 256 → K 4 [some (zr h), some (zi (zfo (fun m k => max m (zdp t (k / 16) (k % 16))) 0 k)), some (zi (k : Int))] [] n σ 0 := by
    refine zloop _ 256 (fun k hk ih => ?_)
    refine x_iload_n C dX1_deepest_4 rfl ?_
    refine x_sipush C dX1_deepest_5 (by decide) ?_
    refine x_icmp_ge (tgt := 34) C dX1_deepest_8 (by decide) (by omega) (fun c8 => ?_) (fun c8 => ?_)
    · refine x_iload_n C dX1_deepest_34 rfl ?_
      exact x_iret (st := []) C dX1_deepest_35 rfl ⟨congrArg (fun z => some (zi z)) (by rw [show k = 256 by omega]), rfl, rfl, rfl⟩
    · refine x_iload_n C dX1_deepest_11 rfl ?_
      refine x_aload_n C dX1_deepest_12 rfl ?_
      refine x_iload_n C dX1_deepest_13 rfl ?_
      refine x_bipush C dX1_deepest_14 (by decide) ?_
      refine x_idiv C dX1_deepest_16 (by omega) ?_
      refine x_iload_n C dX1_deepest_17 rfl ?_
      refine x_bipush C dX1_deepest_18 (by decide) ?_
      refine x_irem C dX1_deepest_20 (by omega) ?_
      refine x_callV C dX1_deepest_21 (ctX1_depthOf ⟨hM, hE, hT, hh⟩ ht _ _ (by omega) (by omega)) okX1_depthOf lkX1_43 ⟨⟨hM, rfl, rfl⟩, (by omega)⟩ ⟨by decide, rfl, rfl, Nat.le_of_ble_eq_true rfl⟩ rfl (Or.inl ⟨rfl, rfl⟩) ?_
      refine x_mmax C dX1_deepest_24 lmX1_46 (by decide) (Nat.le_of_ble_eq_true rfl) (by have := hfo k; have := zdp_in t (k / 16) (k % 16); omega) ?_
      refine x_istore_n C dX1_deepest_27 (by decide) ?_
      refine x_iinc C dX1_deepest_28 rfl (by decide) ?_
      refine x_goto (tgt := 4) C dX1_deepest_31 (by decide) ?_
      exact ih (by omega)
  refine x_iconst C dX1_deepest_0 ?_
  refine x_istore_n C dX1_deepest_1 (by decide) ?_
  refine x_iconst C dX1_deepest_2 ?_
  refine x_istore_n C dX1_deepest_3 (by decide) ?_
  exact loop 0 (by omega)
/-- the room of a block with all that is in it; f: how many levels are below -/
def zroom (t : Int → Int) : Nat → Int → Int → Int
  | 0, row, col => zrm (t (zno 3 row col)) 2
  | f + 1, row, col => if t (zno (2 - f) row col) = 3 then 1 + zsm (fun p => zroom t f (row + p / 2 * zsz (3 - f)) (col + p % 2 * zsz (3 - f))) 4 else zrm (t (zno (2 - f) row col)) (zsz (2 - f))
theorem ctX1_roomFrom {h : Int} {e t : Int → Int} (hm : isM σ n h e t) (ht : zSt t) : ∀ (f : Nat) (d row col : Int), d = 3 - f → 0 ≤ d → (0 ≤ row ∧ row + zsz d ≤ 16) → (0 ≤ col ∧ col + zsz d ≤ 16) → zCt (4 + f) 0 0 yX1_roomFrom cX1_roomFrom 6 (some .int) [zr h, zi d, zi row, zi col] n σ (some (zi (zroom t f row col))) n σ := by
  obtain ⟨hM, hE, hT, hh⟩ := hm
  intro f
  induction f with
  | zero =>
    intro d row col hd hd0 hr hc
    obtain rfl : d = 3 := by omega
    have e3 : zsz 3 = 2 := rfl
    rw [e3] at hr hc
    refine zCt.of (by decide) rfl (Nat.le_of_ble_eq_true rfl) (fun K C => ?_)
    refine x_aload_n C dX1_roomFrom_0 rfl ?_
    refine x_iload_n C dX1_roomFrom_1 rfl ?_
    refine x_iload_n C dX1_roomFrom_2 rfl ?_
    refine x_iload_n C dX1_roomFrom_3 rfl ?_
    refine x_callV C dX1_roomFrom_4 (ctX1_isCut ⟨hM, hE, hT, hh⟩ ht 3 row col (by omega) (by omega) (by omega)) okX1_isCut lkX1_39 ⟨⟨hM, rfl, rfl⟩, (by omega)⟩ ⟨by decide, rfl, rfl, Nat.le_of_ble_eq_true rfl⟩ rfl (Or.inl ⟨rfl, rfl⟩) ?_
    refine x_ifne_d (tgt := 25) C dX1_roomFrom_7 (by decide) (fun c7 => ?_) (fun c7 => ?_)
    · exact absurd c7.1 (by omega)
    · refine x_aload_n C dX1_roomFrom_10 rfl ?_
      refine x_iload_n C dX1_roomFrom_11 rfl ?_
      refine x_iload_n C dX1_roomFrom_12 rfl ?_
      refine x_iload_n C dX1_roomFrom_13 rfl ?_
      refine x_callV C dX1_roomFrom_14 (ctX1_sortOf ⟨hM, hE, hT, hh⟩ 3 row col (by omega) (by omega) (by omega)) okX1_sortOf lkX1_36 ⟨⟨hM, rfl, rfl⟩, (by omega)⟩ ⟨by decide, rfl, rfl, Nat.le_of_ble_eq_true rfl⟩ rfl (Or.inl ⟨rfl, rfl⟩) ?_
      refine x_iload_n C dX1_roomFrom_17 rfl ?_
      refine x_callSN C dX1_roomFrom_18 (ctX5_sizeAt 3 (by omega)) okX5_sizeAt nkX1_24 ⟨by decide, rfl, rfl, Nat.le_of_ble_eq_true rfl⟩ rfl (Or.inl ⟨rfl, rfl⟩) ?_
      refine x_callSN C dX1_roomFrom_21 (ctX5_roomOfUncut _ _ (by have := ht (zno 3 row col); omega)) okX5_roomOfUncut nkX1_54 ⟨by decide, rfl, rfl, Nat.le_of_ble_eq_true rfl⟩ rfl (Or.inl ⟨rfl, rfl⟩) ?_
      exact x_iret (st := []) C dX1_roomFrom_24 rfl ⟨rfl, rfl, rfl, rfl⟩
  | succ f ih =>
    intro d row col hd hd0 hr hc
    have hz := zsz_v (d := d) (by omega)
    have ed : d = 2 - f := by omega
    refine zCt.of (by decide) rfl (Nat.le_of_ble_eq_true rfl) (fun K C => ?_)
    have loop : t (zno d row col) = 3 → d < 3 → ∀ k : Nat, k ≤ 4 → K 31 [some (zr h), some (zi d), some (zi row), some (zi col), some (zi (1 + zsm (fun p => zroom t f (row + p / 2 * zsz (d + 1)) (col + p % 2 * zsz (d + 1))) k)), some (zi (k : Int))] [] n σ 0 := by
      intro ht3 hd3
      refine zloop _ 4 (fun k hk ih2 => ?_)
      refine x_iload C dX1_roomFrom_31 rfl ?_
      refine x_iconst C dX1_roomFrom_33 ?_
      refine x_icmp_ge (tgt := 69) C dX1_roomFrom_34 (by decide) (by omega) (fun c34 => ?_) (fun c34 => ?_)
      · refine x_iload C dX1_roomFrom_69 rfl ?_
        exact x_iret (st := []) C dX1_roomFrom_71 rfl ⟨congrArg (fun z => some (zi z)) (by rw [show k = 4 by omega, zroom, ← ed, if_pos ht3, show (3 - f : Int) = d + 1 by omega]), rfl, rfl, rfl⟩
      · have hp1 := zpart (d := d) (row := row) (p := k) (by omega) (by omega) hr
        have hp2 := zpart (d := d) (row := col) (p := k) (by omega) (by omega) hc
        refine x_iload C dX1_roomFrom_37 rfl ?_
        refine x_aload_n C dX1_roomFrom_39 rfl ?_
        refine x_iload_n C dX1_roomFrom_40 rfl ?_
        refine x_iconst C dX1_roomFrom_41 ?_
        refine x_iadd C dX1_roomFrom_42 ?_
        refine x_iload_n C dX1_roomFrom_43 rfl ?_
        refine x_iload_n C dX1_roomFrom_44 rfl ?_
        refine x_iload C dX1_roomFrom_45 rfl ?_
        refine x_callS C dX1_roomFrom_47 (ctX1_rowOfPart d row _ (by omega) (by omega)) okX1_rowOfPart lkX1_57 ⟨by omega, rfl, rfl, Nat.le_of_ble_eq_true rfl⟩ rfl (Or.inl ⟨rfl, rfl⟩) ?_
        refine x_iload_n C dX1_roomFrom_50 rfl ?_
        refine x_iload_n C dX1_roomFrom_51 rfl ?_
        refine x_iload C dX1_roomFrom_52 rfl ?_
        refine x_callS C dX1_roomFrom_54 (ctX1_columnOfPart d col _ (by omega) (by omega)) okX1_columnOfPart lkX1_60 ⟨by omega, rfl, rfl, Nat.le_of_ble_eq_true rfl⟩ rfl (Or.inl ⟨rfl, rfl⟩) ?_
        refine x_callV C dX1_roomFrom_57 (ih (d + 1) _ _ (by omega) (by omega) hp1.1 hp2.2) okX1_roomFrom lkX1_51 ⟨⟨hM, rfl, rfl⟩, (by omega)⟩ ⟨by omega, rfl, rfl, Nat.le_of_ble_eq_true rfl⟩ rfl (Or.inl ⟨rfl, rfl⟩) ?_
        refine x_iadd C dX1_roomFrom_60 ?_
        refine x_istore C dX1_roomFrom_61 (by decide) ?_
        refine x_iinc C dX1_roomFrom_63 rfl (by decide) ?_
        refine x_goto (tgt := 31) C dX1_roomFrom_66 (by decide) ?_
        rw [Int.add_assoc]
        exact ih2 (by omega)
    refine x_aload_n C dX1_roomFrom_0 rfl ?_
    refine x_iload_n C dX1_roomFrom_1 rfl ?_
    refine x_iload_n C dX1_roomFrom_2 rfl ?_
    refine x_iload_n C dX1_roomFrom_3 rfl ?_
    refine x_callV C dX1_roomFrom_4 (ctX1_isCut ⟨hM, hE, hT, hh⟩ ht d row col (by omega) (by omega) (by omega)) okX1_isCut lkX1_39 ⟨⟨hM, rfl, rfl⟩, (by omega)⟩ ⟨by omega, rfl, rfl, Nat.le_of_ble_eq_true rfl⟩ rfl (Or.inl ⟨rfl, rfl⟩) ?_
    refine x_ifne_d (tgt := 25) C dX1_roomFrom_7 (by decide) (fun c7 => ?_) (fun c7 => ?_)
    · refine x_iconst C dX1_roomFrom_25 ?_
      refine x_istore C dX1_roomFrom_26 (by decide) ?_
      refine x_iconst C dX1_roomFrom_28 ?_
      refine x_istore C dX1_roomFrom_29 (by decide) ?_
      exact loop c7.2 c7.1 0 (by omega)
    · refine x_aload_n C dX1_roomFrom_10 rfl ?_
      refine x_iload_n C dX1_roomFrom_11 rfl ?_
      refine x_iload_n C dX1_roomFrom_12 rfl ?_
      refine x_iload_n C dX1_roomFrom_13 rfl ?_
      refine x_callV C dX1_roomFrom_14 (ctX1_sortOf ⟨hM, hE, hT, hh⟩ d row col (by omega) (by omega) (by omega)) okX1_sortOf lkX1_36 ⟨⟨hM, rfl, rfl⟩, (by omega)⟩ ⟨by omega, rfl, rfl, Nat.le_of_ble_eq_true rfl⟩ rfl (Or.inl ⟨rfl, rfl⟩) ?_
      refine x_iload_n C dX1_roomFrom_17 rfl ?_
      refine x_callSN C dX1_roomFrom_18 (ctX5_sizeAt d (by omega)) okX5_sizeAt nkX1_24 ⟨by omega, rfl, rfl, Nat.le_of_ble_eq_true rfl⟩ rfl (Or.inl ⟨rfl, rfl⟩) ?_
      refine x_callSN C dX1_roomFrom_21 (ctX5_roomOfUncut _ _ (by have := ht (zno d row col); omega)) okX5_roomOfUncut nkX1_54 ⟨by omega, rfl, rfl, Nat.le_of_ble_eq_true rfl⟩ rfl (Or.inl ⟨rfl, rfl⟩) ?_
      exact x_iret (st := []) C dX1_roomFrom_24 rfl ⟨congrArg (fun z => some (zi z)) (by rw [zroom, ← ed, if_neg (fun q => c7 ⟨by omega, q⟩)]), rfl, rfl, rfl⟩
theorem ctX1_room {h : Int} {e t : Int → Int} (hm : isM σ n h e t) (ht : zSt t) : zCt 8 0 0 yX1_room cX1_room 1 (some .int) [zr h] n σ (some (zi (zroom t 3 0 0))) n σ := by
  obtain ⟨hM, hE, hT, hh⟩ := hm
  refine zCt.of (by decide) rfl (Nat.le_of_ble_eq_true rfl) (fun K C => ?_)
  refine x_aload_n C dX1_room_0 rfl ?_
  refine x_iconst C dX1_room_1 ?_
  refine x_iconst C dX1_room_2 ?_
  refine x_iconst C dX1_room_3 ?_
  refine x_callV C dX1_room_4 (ctX1_roomFrom ⟨hM, hE, hT, hh⟩ ht 3 0 0 0 (by decide) (by decide) (by decide) (by decide)) okX1_roomFrom lkX1_51 ⟨⟨hM, rfl, rfl⟩, (by omega)⟩ ⟨by decide, rfl, rfl, Nat.le_of_ble_eq_true rfl⟩ rfl (Or.inl ⟨rfl, rfl⟩) ?_
  exact x_iret (st := []) C dX1_room_7 rfl ⟨congrArg (fun z => some (zi z)) (by first | rfl | omega), rfl, rfl, rfl⟩
def zcnt (t : Int → Int) (s : Int) : Nat → Int → Int → Int
  | 0, row, col => if t (zno 3 row col) = s then 1 else 0
  | f + 1, row, col => (if t (zno (2 - f) row col) = s then 1 else 0) + (if t (zno (2 - f) row col) = 3 then zsm (fun p => zcnt t s f (row + p / 2 * zsz (3 - f)) (col + p % 2 * zsz (3 - f))) 4 else 0)
theorem ctX1_blocksFrom {h : Int} {e t : Int → Int} (hm : isM σ n h e t) (ht : zSt t) {s : Int} (hs : 0 ≤ s ∧ s ≤ 3) : ∀ (f : Nat) (d row col : Int), d = 3 - f → 0 ≤ d → (0 ≤ row ∧ row + zsz d ≤ 16) → (0 ≤ col ∧ col + zsz d ≤ 16) → zCt (4 + f) 0 0 yX1_blocksFrom cX1_blocksFrom 7 (some .int) [zr h, zi s, zi d, zi row, zi col] n σ (some (zi (zcnt t s f row col))) n σ := by
  obtain ⟨hM, hE, hT, hh⟩ := hm
  intro f
  induction f with
  | zero =>
    intro d row col hd hd0 hr hc
    obtain rfl : d = 3 := by omega
    have e3 : zsz 3 = 2 := rfl
    rw [e3] at hr hc
    have ht1 := ht (zno 3 row col)
    refine zCt.of (by decide) rfl (Nat.le_of_ble_eq_true rfl) (fun K C => ?_)
    refine x_aload_n C dX1_blocksFrom_0 rfl ?_
    refine x_iload_n C dX1_blocksFrom_1 rfl ?_
    refine x_iload_n C dX1_blocksFrom_2 rfl ?_
    refine x_iload C dX1_blocksFrom_3 rfl ?_
    refine x_callV C dX1_blocksFrom_5 (ctX1_sortOf ⟨hM, hE, hT, hh⟩ 3 row col (by omega) (by omega) (by omega)) okX1_sortOf lkX1_36 ⟨⟨hM, rfl, rfl⟩, (by omega)⟩ ⟨by decide, rfl, rfl, Nat.le_of_ble_eq_true rfl⟩ rfl (Or.inl ⟨rfl, rfl⟩) ?_
    refine x_iload_n C dX1_blocksFrom_8 rfl ?_
    refine x_icmp_ne (tgt := 16) C dX1_blocksFrom_9 (by decide) (by omega) (fun c9 => ?_) (fun c9 => ?_)
    · refine x_iconst C dX1_blocksFrom_16 ?_
      refine x_istore C dX1_blocksFrom_17 (by decide) ?_
      refine x_aload_n C dX1_blocksFrom_19 rfl ?_
      refine x_iload_n C dX1_blocksFrom_20 rfl ?_
      refine x_iload_n C dX1_blocksFrom_21 rfl ?_
      refine x_iload C dX1_blocksFrom_22 rfl ?_
      refine x_callV C dX1_blocksFrom_24 (ctX1_isCut ⟨hM, hE, hT, hh⟩ ht 3 row col (by omega) (by omega) (by omega)) okX1_isCut lkX1_39 ⟨⟨hM, rfl, rfl⟩, (by omega)⟩ ⟨by decide, rfl, rfl, Nat.le_of_ble_eq_true rfl⟩ rfl (Or.inl ⟨rfl, rfl⟩) ?_
      refine x_ifne_d (tgt := 33) C dX1_blocksFrom_27 (by decide) (fun c27 => ?_) (fun c27 => ?_)
      · exact absurd c27.1 (by omega)
      · refine x_iload C dX1_blocksFrom_30 rfl ?_
        exact x_iret (st := []) C dX1_blocksFrom_32 rfl ⟨congrArg (fun z => some (zi z)) (by simp [zcnt, c9]), rfl, rfl, rfl⟩
    · refine x_iconst C dX1_blocksFrom_12 ?_
      refine x_goto (tgt := 17) C dX1_blocksFrom_13 (by decide) ?_
      refine x_istore C dX1_blocksFrom_17 (by decide) ?_
      refine x_aload_n C dX1_blocksFrom_19 rfl ?_
      refine x_iload_n C dX1_blocksFrom_20 rfl ?_
      refine x_iload_n C dX1_blocksFrom_21 rfl ?_
      refine x_iload C dX1_blocksFrom_22 rfl ?_
      refine x_callV C dX1_blocksFrom_24 (ctX1_isCut ⟨hM, hE, hT, hh⟩ ht 3 row col (by omega) (by omega) (by omega)) okX1_isCut lkX1_39 ⟨⟨hM, rfl, rfl⟩, (by omega)⟩ ⟨by decide, rfl, rfl, Nat.le_of_ble_eq_true rfl⟩ rfl (Or.inl ⟨rfl, rfl⟩) ?_
      refine x_ifne_d (tgt := 33) C dX1_blocksFrom_27 (by decide) (fun c27 => ?_) (fun c27 => ?_)
      · exact absurd c27.1 (by omega)
      · refine x_iload C dX1_blocksFrom_30 rfl ?_
        exact x_iret (st := []) C dX1_blocksFrom_32 rfl ⟨congrArg (fun z => some (zi z)) (by simp [zcnt, c9]), rfl, rfl, rfl⟩
  | succ f ih =>
    intro d row col hd hd0 hr hc
    have hz := zsz_v (d := d) (by omega)
    have ed : d = 2 - f := by omega
    have ht1 := ht (zno d row col)
    refine zCt.of (by decide) rfl (Nat.le_of_ble_eq_true rfl) (fun K C => ?_)
    have join : ∀ x : Int, x = (if t (zno d row col) = s then 1 else 0) → K 17 [some (zr h), some (zi s), some (zi d), some (zi row), some (zi col), none, none] [zi x] n σ 0 := by
      intro x hx
      have loop : t (zno d row col) = 3 → d < 3 → ∀ k : Nat, k ≤ 4 → K 36 [some (zr h), some (zi s), some (zi d), some (zi row), some (zi col), some (zi (x + zsm (fun p => zcnt t s f (row + p / 2 * zsz (d + 1)) (col + p % 2 * zsz (d + 1))) k)), some (zi (k : Int))] [] n σ 0 := by
        intro ht3 hd3
        refine zloop _ 4 (fun k hk ih2 => ?_)
        refine x_iload C dX1_blocksFrom_36 rfl ?_
        refine x_iconst C dX1_blocksFrom_38 ?_
        refine x_icmp_ge (tgt := 76) C dX1_blocksFrom_39 (by decide) (by omega) (fun c39 => ?_) (fun c39 => ?_)
        · refine x_iload C dX1_blocksFrom_76 rfl ?_
          exact x_iret (st := []) C dX1_blocksFrom_78 rfl ⟨congrArg (fun z => some (zi z)) (by rw [show k = 4 by omega, zcnt, ← ed, if_pos ht3, show (3 - f : Int) = d + 1 by omega, hx]), rfl, rfl, rfl⟩
        · have hp1 := zpart (d := d) (row := row) (p := k) (by omega) (by omega) hr
          have hp2 := zpart (d := d) (row := col) (p := k) (by omega) (by omega) hc
          refine x_iload C dX1_blocksFrom_42 rfl ?_
          refine x_aload_n C dX1_blocksFrom_44 rfl ?_
          refine x_iload_n C dX1_blocksFrom_45 rfl ?_
          refine x_iload_n C dX1_blocksFrom_46 rfl ?_
          refine x_iconst C dX1_blocksFrom_47 ?_
          refine x_iadd C dX1_blocksFrom_48 ?_
          refine x_iload_n C dX1_blocksFrom_49 rfl ?_
          refine x_iload_n C dX1_blocksFrom_50 rfl ?_
          refine x_iload C dX1_blocksFrom_51 rfl ?_
          refine x_callS C dX1_blocksFrom_53 (ctX1_rowOfPart d row _ (by omega) (by omega)) okX1_rowOfPart lkX1_57 ⟨by omega, rfl, rfl, Nat.le_of_ble_eq_true rfl⟩ rfl (Or.inl ⟨rfl, rfl⟩) ?_
          refine x_iload_n C dX1_blocksFrom_56 rfl ?_
          refine x_iload C dX1_blocksFrom_57 rfl ?_
          refine x_iload C dX1_blocksFrom_59 rfl ?_
          refine x_callS C dX1_blocksFrom_61 (ctX1_columnOfPart d col _ (by omega) (by omega)) okX1_columnOfPart lkX1_60 ⟨by omega, rfl, rfl, Nat.le_of_ble_eq_true rfl⟩ rfl (Or.inl ⟨rfl, rfl⟩) ?_
          refine x_callV C dX1_blocksFrom_64 (ih (d + 1) _ _ (by omega) (by omega) hp1.1 hp2.2) okX1_blocksFrom lkX1_63 ⟨⟨hM, rfl, rfl⟩, (by omega)⟩ ⟨by omega, rfl, rfl, Nat.le_of_ble_eq_true rfl⟩ rfl (Or.inl ⟨rfl, rfl⟩) ?_
          refine x_iadd C dX1_blocksFrom_67 ?_
          refine x_istore C dX1_blocksFrom_68 (by decide) ?_
          refine x_iinc C dX1_blocksFrom_70 rfl (by decide) ?_
          refine x_goto (tgt := 36) C dX1_blocksFrom_73 (by decide) ?_
          rw [Int.add_assoc]
          exact ih2 (by omega)
      refine x_istore C dX1_blocksFrom_17 (by decide) ?_
      refine x_aload_n C dX1_blocksFrom_19 rfl ?_
      refine x_iload_n C dX1_blocksFrom_20 rfl ?_
      refine x_iload_n C dX1_blocksFrom_21 rfl ?_
      refine x_iload C dX1_blocksFrom_22 rfl ?_
      refine x_callV C dX1_blocksFrom_24 (ctX1_isCut ⟨hM, hE, hT, hh⟩ ht d row col (by omega) (by omega) (by omega)) okX1_isCut lkX1_39 ⟨⟨hM, rfl, rfl⟩, (by omega)⟩ ⟨by omega, rfl, rfl, Nat.le_of_ble_eq_true rfl⟩ rfl (Or.inl ⟨rfl, rfl⟩) ?_
      refine x_ifne_d (tgt := 33) C dX1_blocksFrom_27 (by decide) (fun c27 => ?_) (fun c27 => ?_)
      · refine x_iconst C dX1_blocksFrom_33 ?_
        refine x_istore C dX1_blocksFrom_34 (by decide) ?_
        rw [show x = x + zsm (fun p => zcnt t s f (row + p / 2 * zsz (d + 1)) (col + p % 2 * zsz (d + 1))) 0 from (Int.add_zero x).symm]
        exact loop c27.2 c27.1 0 (by omega)
      · refine x_iload C dX1_blocksFrom_30 rfl ?_
        exact x_iret (st := []) C dX1_blocksFrom_32 rfl ⟨congrArg (fun z => some (zi z)) (by rw [zcnt, ← ed, if_neg (show ¬ t (zno d row col) = 3 from fun q => c27 ⟨by omega, q⟩), hx, Int.add_zero]), rfl, rfl, rfl⟩
    refine x_aload_n C dX1_blocksFrom_0 rfl ?_
    refine x_iload_n C dX1_blocksFrom_1 rfl ?_
    refine x_iload_n C dX1_blocksFrom_2 rfl ?_
    refine x_iload C dX1_blocksFrom_3 rfl ?_
    refine x_callV C dX1_blocksFrom_5 (ctX1_sortOf ⟨hM, hE, hT, hh⟩ d row col (by omega) (by omega) (by omega)) okX1_sortOf lkX1_36 ⟨⟨hM, rfl, rfl⟩, (by omega)⟩ ⟨by omega, rfl, rfl, Nat.le_of_ble_eq_true rfl⟩ rfl (Or.inl ⟨rfl, rfl⟩) ?_
    refine x_iload_n C dX1_blocksFrom_8 rfl ?_
    refine x_icmp_ne (tgt := 16) C dX1_blocksFrom_9 (by decide) (by omega) (fun c9 => ?_) (fun c9 => ?_)
    · try skip
      refine x_iconst C dX1_blocksFrom_16 ?_
      exact join _ (by first | exact (if_pos c9).symm | exact (if_neg c9).symm)
    · refine x_iconst C dX1_blocksFrom_12 ?_
      refine x_goto (tgt := 17) C dX1_blocksFrom_13 (by decide) ?_
      exact join _ (by first | exact (if_pos c9).symm | exact (if_neg c9).symm)
theorem ctX1_blocksOf {h : Int} {e t : Int → Int} (hm : isM σ n h e t) (ht : zSt t) {s : Int} (hs : 0 ≤ s ∧ s ≤ 3) : zCt 8 0 0 yX1_blocksOf cX1_blocksOf 2 (some .int) [zr h, zi s] n σ (some (zi (zcnt t s 3 0 0))) n σ := by
  obtain ⟨hM, hE, hT, hh⟩ := hm
  refine zCt.of (by decide) rfl (Nat.le_of_ble_eq_true rfl) (fun K C => ?_)
  refine x_aload_n C dX1_blocksOf_0 rfl ?_
  refine x_iload_n C dX1_blocksOf_1 rfl ?_
  refine x_iconst C dX1_blocksOf_2 ?_
  refine x_iconst C dX1_blocksOf_3 ?_
  refine x_iconst C dX1_blocksOf_4 ?_
  refine x_callV C dX1_blocksOf_5 (ctX1_blocksFrom ⟨hM, hE, hT, hh⟩ ht hs 3 0 0 0 (by decide) (by decide) (by decide) (by decide)) okX1_blocksFrom lkX1_63 ⟨⟨hM, rfl, rfl⟩, (by omega)⟩ ⟨by decide, rfl, rfl, Nat.le_of_ble_eq_true rfl⟩ rfl (Or.inl ⟨rfl, rfl⟩) ?_
  exact x_iret (st := []) C dX1_blocksOf_8 rfl ⟨congrArg (fun z => some (zi z)) (by first | rfl | omega), rfl, rfl, rfl⟩
end
end
section
theorem zsp_at (e : Int → Int) {row col q i k : Int} (v : Int → Int) (hc : 0 ≤ col ∧ 0 ≤ k ∧ k < q ∧ col + q ≤ 16) : zsp e row col q i k v ((row + i) * 16 + (col + k)) = e ((row + i) * 16 + (col + k)) := by
  unfold zsp
  rw [if_neg (by omega)]
theorem zmul99 {a b : Int} (ha : -1000000 ≤ a ∧ a ≤ 1000000) (hb : -99 ≤ b ∧ b ≤ 99) : -99000000 ≤ a * b ∧ a * b ≤ 99000000 := by
  constructor
  · rcases Int.le_total 0 b with h | h
    · have h1 : -1000000 * b ≤ a * b := Int.mul_le_mul_of_nonneg_right ha.1 h
      omega
    · have h1 : 1000000 * b ≤ a * b := Int.mul_le_mul_of_nonpos_right ha.2 h
      omega
  · rcases Int.le_total 0 b with h | h
    · have h1 : a * b ≤ 1000000 * b := Int.mul_le_mul_of_nonneg_right ha.2 h
      omega
    · have h1 : a * b ≤ -1000000 * b := Int.mul_le_mul_of_nonpos_right ha.1 h
      omega
theorem zmulM {a b : Int} (ha : -1000000 ≤ a ∧ a ≤ 1000000) (hb : -1000000 ≤ b ∧ b ≤ 1000000) : -1000000000000 ≤ a * b ∧ a * b ≤ 1000000000000 := by
  constructor
  · rcases Int.le_total 0 b with h | h
    · have h1 : -1000000 * b ≤ a * b := Int.mul_le_mul_of_nonneg_right ha.1 h
      omega
    · have h1 : 1000000 * b ≤ a * b := Int.mul_le_mul_of_nonpos_right ha.2 h
      omega
  · rcases Int.le_total 0 b with h | h
    · have h1 : a * b ≤ 1000000 * b := Int.mul_le_mul_of_nonneg_right ha.2 h
      omega
    · have h1 : a * b ≤ -1000000 * b := Int.mul_le_mul_of_nonpos_right ha.1 h
      omega
def zBd (e : Int → Int) : Prop := ∀ j, -1000000 ≤ e j ∧ e j ≤ 1000000
section
variable {n : Nat} {σ : zS}
theorem ctX1_setThin {h a1 a2 : Int} {e t u v : Int → Int} (hm : isM σ n h e t) (hu : σ a1 = zA 16 u) (hv : σ a2 = zA 16 v) (ha : (0 < a1 ∧ a1 ≤ n) ∧ (0 < a2 ∧ a2 ≤ n) ∧ (a1 < h ∨ h + 2 < a1) ∧ (a2 < h ∨ h + 2 < a2)) (d row col : Int) (hd : 0 ≤ d ∧ d ≤ 3) (hr : 0 ≤ row ∧ row + zsz d ≤ 16) (hc : 0 ≤ col ∧ col + zsz d ≤ 16) : zCt 3 0 0 yX1_setThin cX1_setThin 9 none [zr h, zi d, zi row, zi col, zr a1, zr a2] n σ none n (sM σ h (zsq e row col (zsz d) (fun j => u (j / 16 - row) * v (j % 16 - col))) (zu t (zno d row col) 2)) := by
  obtain ⟨q, hq, hq2, hq16⟩ := zszN hd
  rw [hq] at hr hc ⊢
  refine zCt.of (by decide) rfl (Nat.le_of_ble_eq_true rfl) (fun K C => ?_)
  have loop : ∀ i : Nat, i ≤ q → K 17 [some (zr h), some (zi d), some (zi row), some (zi col), some (zr a1), some (zr a2), some (zi (q : Int)), some (zi (i : Int)), none] [] n (sM σ h (zsp e row col q i 0 (fun j => u (j / 16 - row) * v (j % 16 - col))) (zu t (zno d row col) 2)) 0 := by
    refine zloop _ q (fun i hi ih => ?_)
    have loop2 : i < q → ∀ k : Nat, k ≤ q → K 35 [some (zr h), some (zi d), some (zi row), some (zi col), some (zr a1), some (zr a2), some (zi (q : Int)), some (zi (i : Int)), some (zi (k : Int))] [] n (sM σ h (zsp e row col q i k (fun j => u (j / 16 - row) * v (j % 16 - col))) (zu t (zno d row col) 2)) 0 := by
      intro hi2
      refine zloop _ q (fun k hk ih2 => ?_)
      obtain ⟨hM, hE, hT, hh⟩ := isM_s hm (zsp e row col q i k (fun j => u (j / 16 - row) * v (j % 16 - col))) (zu t (zno d row col) 2)
      have hU := (sM_o σ (zsp e row col q i k (fun j => u (j / 16 - row) * v (j % 16 - col))) (zu t (zno d row col) 2) (h := h) (k := a1) (by omega)).trans hu
      have hV := (sM_o σ (zsp e row col q i k (fun j => u (j / 16 - row) * v (j % 16 - col))) (zu t (zno d row col) 2) (h := h) (k := a2) (by omega)).trans hv
      refine x_iload C dX1_setThin_35 rfl ?_
      refine x_iload C dX1_setThin_37 rfl ?_
      refine x_icmp_ge (tgt := 83) C dX1_setThin_39 (by decide) (by omega) (fun c39 => ?_) (fun c39 => ?_)
      · refine x_iinc C dX1_setThin_83 rfl (by decide) ?_
        refine x_goto (tgt := 17) C dX1_setThin_86 (by decide) ?_
        rw [show k = q by omega, zsp_r e (by omega)]
        refine x_weak C (Lo' := [some (zr h), some (zi d), some (zi row), some (zi col), some (zr a1), some (zr a2), some (zi (q : Int)), some (zi ((i + 1 : Nat) : Int)), none]) (fun j u hj => by match j, hj with | 0, hj => exact hj | 1, hj => exact hj | 2, hj => exact hj | 3, hj => exact hj | 4, hj => exact hj | 5, hj => exact hj | 6, hj => exact hj | 7, hj => exact hj | j + 9, hj => exact absurd hj (by simp [zg])) ?_
        exact ih (by omega)
      · refine x_iload C dX1_setThin_42 rfl ?_
        refine x_aload C dX1_setThin_44 rfl ?_
        refine x_alen0 C dX1_setThin_46 hV (by omega) ?_
        refine x_icmp_ge (tgt := 83) C dX1_setThin_47 (by decide) (by omega) (fun c47 => ?_) (fun c47 => ?_)
        · exact absurd c47 (by omega)
        · refine x_aload_n C dX1_setThin_50 rfl ?_
          refine x_getfield C dX1_setThin_51 lfX1_9 hM (by omega) rfl ?_
          refine x_iload_n C dX1_setThin_54 rfl ?_
          refine x_iload C dX1_setThin_55 rfl ?_
          refine x_iadd C dX1_setThin_57 ?_
          refine x_iload_n C dX1_setThin_58 rfl ?_
          refine x_iload C dX1_setThin_59 rfl ?_
          refine x_iadd C dX1_setThin_61 ?_
          refine x_callS C dX1_setThin_62 (ctX1_cellOf _ _) okX1_cellOf lkX1_28 ⟨by decide, rfl, rfl, Nat.le_of_ble_eq_true rfl⟩ rfl (Or.inl ⟨rfl, rfl⟩) ?_
          refine x_aload C dX1_setThin_65 rfl ?_
          refine x_iload C dX1_setThin_67 rfl ?_
          refine x_iaload C dX1_setThin_69 hU (by omega) ?_
          refine x_aload C dX1_setThin_70 rfl ?_
          refine x_iload C dX1_setThin_72 rfl ?_
          refine x_iaload C dX1_setThin_74 hV (by omega) ?_
          refine x_imul C dX1_setThin_75 ?_
          refine x_iastore C dX1_setThin_76 hE (by omega) ?_
          rw [sM_e, zsp_s e (fun j => u (j / 16 - row) * v (j % 16 - col)) (by omega) (by show _ = u _ * v _; rw [show ((row + (i : Int)) * 16 + (col + (k : Int))) / 16 - row = i by omega, show ((row + (i : Int)) * 16 + (col + (k : Int))) % 16 - col = k by omega])]
          refine x_iinc C dX1_setThin_77 rfl (by decide) ?_
          refine x_goto (tgt := 35) C dX1_setThin_80 (by decide) ?_
          exact ih2 (by omega)
    have hU := (sM_o σ (zsp e row col q i 0 (fun j => u (j / 16 - row) * v (j % 16 - col))) (zu t (zno d row col) 2) (h := h) (k := a1) (by omega)).trans hu
    refine x_iload C dX1_setThin_17 rfl ?_
    refine x_iload C dX1_setThin_19 rfl ?_
    refine x_icmp_ge (tgt := 89) C dX1_setThin_21 (by decide) (by omega) (fun c21 => ?_) (fun c21 => ?_)
    · exact x_vret (st := []) C dX1_setThin_89 rfl ⟨rfl, rfl, by rw [show i = q by omega, zsp_e], rfl⟩
    · refine x_iload C dX1_setThin_24 rfl ?_
      refine x_aload C dX1_setThin_26 rfl ?_
      refine x_alen0 C dX1_setThin_28 hU (by omega) ?_
      refine x_icmp_ge (tgt := 89) C dX1_setThin_29 (by decide) (by omega) (fun c29 => ?_) (fun c29 => ?_)
      · exact absurd c29 (by omega)
      · refine x_iconst C dX1_setThin_32 ?_
        refine x_istore C dX1_setThin_33 (by decide) ?_
        exact loop2 (by omega) 0 (by omega)
  obtain ⟨hM, hE, hT, hh⟩ := hm
  have hm : isM σ n h e t := ⟨hM, hE, hT, hh⟩
  refine x_aload_n C dX1_setThin_0 rfl ?_
  refine x_iload_n C dX1_setThin_1 rfl ?_
  refine x_iload_n C dX1_setThin_2 rfl ?_
  refine x_iload_n C dX1_setThin_3 rfl ?_
  refine x_iconst C dX1_setThin_4 ?_
  refine x_callV C dX1_setThin_5 (ctX1_setSort2 hm d row col 2 hd (by omega) (by omega)) okX1_setSort lkX1_71 ⟨⟨hM, rfl, rfl⟩, (by omega)⟩ ⟨by decide, rfl, rfl, Nat.le_of_ble_eq_true rfl⟩ rfl (Or.inl ⟨rfl, rfl⟩) ?_
  refine x_iload_n C dX1_setThin_8 rfl ?_
  refine x_callSN C dX1_setThin_9 (ctX5_sizeAt d hd) okX5_sizeAt nkX1_24 ⟨by decide, rfl, rfl, Nat.le_of_ble_eq_true rfl⟩ rfl (Or.inl ⟨rfl, rfl⟩) ?_
  refine x_istore C dX1_setThin_12 (by decide) ?_
  refine x_iconst C dX1_setThin_14 ?_
  refine x_istore C dX1_setThin_15 (by decide) ?_
  rw [hq]
  have l0 := loop 0 (by omega)
  rw [show ((0 : Nat) : Int) = 0 from rfl, zsp_0] at l0
  exact l0
theorem ctX1_setFull {h a1 : Int} {e t u : Int → Int} (hm : isM σ n h e t) (hu : σ a1 = zA 256 u) (ha : (0 < a1 ∧ a1 ≤ n) ∧ (a1 < h ∨ h + 2 < a1)) (d row col : Int) (hd : 0 ≤ d ∧ d ≤ 3) (hr : 0 ≤ row ∧ row + zsz d ≤ 16) (hc : 0 ≤ col ∧ col + zsz d ≤ 16) : zCt 3 0 0 yX1_setFull cX1_setFull 8 none [zr h, zi d, zi row, zi col, zr a1] n σ none n (sM σ h (zsq e row col (zsz d) (fun j => u ((j / 16 - row) * zsz d + (j % 16 - col)))) (zu t (zno d row col) 1)) := by
  obtain ⟨q, hq, hq2, hq16⟩ := zszN hd
  rw [hq] at hr hc ⊢
  refine zCt.of (by decide) rfl (Nat.le_of_ble_eq_true rfl) (fun K C => ?_)
  have loop : ∀ i : Nat, i ≤ q → K 17 [some (zr h), some (zi d), some (zi row), some (zi col), some (zr a1), some (zi (q : Int)), some (zi (i : Int)), none] [] n (sM σ h (zsp e row col q i 0 (fun j => u ((j / 16 - row) * q + (j % 16 - col)))) (zu t (zno d row col) 1)) 0 := by
    refine zloop _ q (fun i hi ih => ?_)
    have loop2 : i < q → ∀ k : Nat, k ≤ q → K 27 [some (zr h), some (zi d), some (zi row), some (zi col), some (zr a1), some (zi (q : Int)), some (zi (i : Int)), some (zi (k : Int))] [] n (sM σ h (zsp e row col q i k (fun j => u ((j / 16 - row) * q + (j % 16 - col)))) (zu t (zno d row col) 1)) 0 := by
      intro hi2
      refine zloop _ q (fun k hk ih2 => ?_)
      obtain ⟨hM, hE, hT, hh⟩ := isM_s hm (zsp e row col q i k (fun j => u ((j / 16 - row) * q + (j % 16 - col)))) (zu t (zno d row col) 1)
      have hU := (sM_o σ (zsp e row col q i k (fun j => u ((j / 16 - row) * q + (j % 16 - col)))) (zu t (zno d row col) 1) (h := h) (k := a1) (by omega)).trans hu
      refine x_iload C dX1_setFull_27 rfl ?_
      refine x_iload C dX1_setFull_29 rfl ?_
      refine x_icmp_ge (tgt := 81) C dX1_setFull_31 (by decide) (by omega) (fun c31 => ?_) (fun c31 => ?_)
      · refine x_iinc C dX1_setFull_81 rfl (by decide) ?_
        refine x_goto (tgt := 17) C dX1_setFull_84 (by decide) ?_
        rw [show k = q by omega, zsp_r e (by omega)]
        refine x_weak C (Lo' := [some (zr h), some (zi d), some (zi row), some (zi col), some (zr a1), some (zi (q : Int)), some (zi ((i + 1 : Nat) : Int)), none]) (fun j u hj => by match j, hj with | 0, hj => exact hj | 1, hj => exact hj | 2, hj => exact hj | 3, hj => exact hj | 4, hj => exact hj | 5, hj => exact hj | 6, hj => exact hj | j + 8, hj => exact absurd hj (by simp [zg])) ?_
        exact ih (by omega)
      · have hb := zmul16 (i := i) (k := k) (q := q) (by omega) (by omega) (by omega)
        refine x_iload C dX1_setFull_34 rfl ?_
        refine x_iload C dX1_setFull_36 rfl ?_
        refine x_imul C dX1_setFull_38 ?_
        refine x_iload C dX1_setFull_39 rfl ?_
        refine x_iadd C dX1_setFull_41 ?_
        refine x_aload C dX1_setFull_42 rfl ?_
        refine x_alen0 C dX1_setFull_44 hU (by omega) ?_
        refine x_icmp_ge (tgt := 81) C dX1_setFull_45 (by decide) (by omega) (fun c45 => ?_) (fun c45 => ?_)
        · exact absurd c45 (by omega)
        · refine x_aload_n C dX1_setFull_48 rfl ?_
          refine x_getfield C dX1_setFull_49 lfX1_9 hM (by omega) rfl ?_
          refine x_iload_n C dX1_setFull_52 rfl ?_
          refine x_iload C dX1_setFull_53 rfl ?_
          refine x_iadd C dX1_setFull_55 ?_
          refine x_iload_n C dX1_setFull_56 rfl ?_
          refine x_iload C dX1_setFull_57 rfl ?_
          refine x_iadd C dX1_setFull_59 ?_
          refine x_callS C dX1_setFull_60 (ctX1_cellOf _ _) okX1_cellOf lkX1_28 ⟨by decide, rfl, rfl, Nat.le_of_ble_eq_true rfl⟩ rfl (Or.inl ⟨rfl, rfl⟩) ?_
          refine x_aload C dX1_setFull_63 rfl ?_
          refine x_iload C dX1_setFull_65 rfl ?_
          refine x_iload C dX1_setFull_67 rfl ?_
          refine x_imul C dX1_setFull_69 ?_
          refine x_iload C dX1_setFull_70 rfl ?_
          refine x_iadd C dX1_setFull_72 ?_
          refine x_iaload C dX1_setFull_73 hU (by omega) ?_
          refine x_iastore C dX1_setFull_74 hE (by omega) ?_
          rw [sM_e, zsp_s e (fun j => u ((j / 16 - row) * q + (j % 16 - col))) (by omega) (by show _ = u (_ * (q : Int) + _); rw [show ((row + (i : Int)) * 16 + (col + (k : Int))) / 16 - row = i by omega, show ((row + (i : Int)) * 16 + (col + (k : Int))) % 16 - col = k by omega])]
          refine x_iinc C dX1_setFull_75 rfl (by decide) ?_
          refine x_goto (tgt := 27) C dX1_setFull_78 (by decide) ?_
          exact ih2 (by omega)
    refine x_iload C dX1_setFull_17 rfl ?_
    refine x_iload C dX1_setFull_19 rfl ?_
    refine x_icmp_ge (tgt := 87) C dX1_setFull_21 (by decide) (by omega) (fun c21 => ?_) (fun c21 => ?_)
    · exact x_vret (st := []) C dX1_setFull_87 rfl ⟨rfl, rfl, by rw [show i = q by omega, zsp_e], rfl⟩
    · refine x_iconst C dX1_setFull_24 ?_
      refine x_istore C dX1_setFull_25 (by decide) ?_
      exact loop2 (by omega) 0 (by omega)
  obtain ⟨hM, hE, hT, hh⟩ := hm
  have hm : isM σ n h e t := ⟨hM, hE, hT, hh⟩
  refine x_aload_n C dX1_setFull_0 rfl ?_
  refine x_iload_n C dX1_setFull_1 rfl ?_
  refine x_iload_n C dX1_setFull_2 rfl ?_
  refine x_iload_n C dX1_setFull_3 rfl ?_
  refine x_iconst C dX1_setFull_4 ?_
  refine x_callV C dX1_setFull_5 (ctX1_setSort2 hm d row col 1 hd (by omega) (by omega)) okX1_setSort lkX1_71 ⟨⟨hM, rfl, rfl⟩, (by omega)⟩ ⟨by decide, rfl, rfl, Nat.le_of_ble_eq_true rfl⟩ rfl (Or.inl ⟨rfl, rfl⟩) ?_
  refine x_iload_n C dX1_setFull_8 rfl ?_
  refine x_callSN C dX1_setFull_9 (ctX5_sizeAt d hd) okX5_sizeAt nkX1_24 ⟨by decide, rfl, rfl, Nat.le_of_ble_eq_true rfl⟩ rfl (Or.inl ⟨rfl, rfl⟩) ?_
  refine x_istore C dX1_setFull_12 (by decide) ?_
  refine x_iconst C dX1_setFull_14 ?_
  refine x_istore C dX1_setFull_15 (by decide) ?_
  rw [hq]
  have l0 := loop 0 (by omega)
  rw [show ((0 : Nat) : Int) = 0 from rfl, zsp_0] at l0
  exact l0
def zclp (x : Int) : Int := max (-1000000) (min 1000000 x)
theorem ctX1_joinEntries {h h2 : Int} {e t e2 t2 : Int → Int} (hm : isM σ n h e t) (hm2 : isM σ n h2 e2 t2) (hd2 : h2 + 2 < h ∨ h + 2 < h2) (he : zBd e) (he2 : zBd e2) (x d row col : Int) (hx : -99 ≤ x ∧ x ≤ 99) (hd : 0 ≤ d ∧ d ≤ 3) (hr : 0 ≤ row ∧ row + zsz d ≤ 16) (hc : 0 ≤ col ∧ col + zsz d ≤ 16) : zCt 3 0 0 yX1_joinEntries cX1_joinEntries 11 none [zr h, zr h2, zi x, zi d, zi row, zi col] n σ none n (sM σ h (zsq e row col (zsz d) (fun j => zclp (e j + e2 j * x))) (zu t (zno d row col) 1)) := by
  obtain ⟨q, hq, hq2, hq16⟩ := zszN hd
  rw [hq] at hr hc ⊢
  refine zCt.of (by decide) rfl (Nat.le_of_ble_eq_true rfl) (fun K C => ?_)
  have loop : ∀ i : Nat, i ≤ q → K 19 [some (zr h), some (zr h2), some (zi x), some (zi d), some (zi row), some (zi col), some (zi (q : Int)), some (zi (i : Int)), none, none, none] [] n (sM σ h (zsp e row col q i 0 (fun j => zclp (e j + e2 j * x))) (zu t (zno d row col) 1)) 0 := by
    refine zloop _ q (fun i hi ih => ?_)
    have loop2 : i < q → ∀ k : Nat, k ≤ q → K 29 [some (zr h), some (zr h2), some (zi x), some (zi d), some (zi row), some (zi col), some (zi (q : Int)), some (zi (i : Int)), some (zi (k : Int)), none, none] [] n (sM σ h (zsp e row col q i k (fun j => zclp (e j + e2 j * x))) (zu t (zno d row col) 1)) 0 := by
      intro hi2
      refine zloop _ q (fun k hk ih2 => ?_)
      obtain ⟨hM, hE, hT, hh⟩ := isM_s hm (zsp e row col q i k (fun j => zclp (e j + e2 j * x))) (zu t (zno d row col) 1)
      obtain ⟨hM2, hE2, hT2, hh2⟩ := isM_o hm2 hd2 (zsp e row col q i k (fun j => zclp (e j + e2 j * x))) (zu t (zno d row col) 1)
      refine x_iload C dX1_joinEntries_29 rfl ?_
      refine x_iload C dX1_joinEntries_31 rfl ?_
      refine x_icmp_ge (tgt := 95) C dX1_joinEntries_33 (by decide) (by omega) (fun c33 => ?_) (fun c33 => ?_)
      · refine x_iinc C dX1_joinEntries_95 rfl (by decide) ?_
        refine x_goto (tgt := 19) C dX1_joinEntries_98 (by decide) ?_
        rw [show k = q by omega, zsp_r e (by omega)]
        refine x_weak C (Lo' := [some (zr h), some (zr h2), some (zi x), some (zi d), some (zi row), some (zi col), some (zi (q : Int)), some (zi ((i + 1 : Nat) : Int)), none, none, none]) (fun j u hj => by match j, hj with | 0, hj => exact hj | 1, hj => exact hj | 2, hj => exact hj | 3, hj => exact hj | 4, hj => exact hj | 5, hj => exact hj | 6, hj => exact hj | 7, hj => exact hj | j + 11, hj => exact absurd hj (by simp [zg])) ?_
        exact ih (by omega)
      · have hat := zsp_at e (row := row) (col := col) (q := q) (i := i) (k := k) (fun j => zclp (e j + e2 j * x)) (by omega)
        have hb1 := he ((row + i) * 16 + (col + k))
        have hb2 := zmul99 (he2 ((row + i) * 16 + (col + k))) hx
        refine x_iload C dX1_joinEntries_36 rfl ?_
        refine x_iload C dX1_joinEntries_38 rfl ?_
        refine x_iadd C dX1_joinEntries_40 ?_
        refine x_iload C dX1_joinEntries_41 rfl ?_
        refine x_iload C dX1_joinEntries_43 rfl ?_
        refine x_iadd C dX1_joinEntries_45 ?_
        refine x_callS C dX1_joinEntries_46 (ctX1_cellOf _ _) okX1_cellOf lkX1_28 ⟨by decide, rfl, rfl, Nat.le_of_ble_eq_true rfl⟩ rfl (Or.inl ⟨rfl, rfl⟩) ?_
        refine x_istore C dX1_joinEntries_49 (by decide) ?_
        refine x_aload_n C dX1_joinEntries_51 rfl ?_
        refine x_getfield C dX1_joinEntries_52 lfX1_9 hM (by omega) rfl ?_
        refine x_iload C dX1_joinEntries_55 rfl ?_
        refine x_iaload C dX1_joinEntries_57 hE (by omega) ?_
        refine x_aload_n C dX1_joinEntries_58 rfl ?_
        refine x_getfield C dX1_joinEntries_59 lfX1_9 hM2 (by omega) rfl ?_
        refine x_iload C dX1_joinEntries_62 rfl ?_
        refine x_iaload C dX1_joinEntries_64 hE2 (by omega) ?_
        refine x_iload_n C dX1_joinEntries_65 rfl ?_
        refine x_imul C dX1_joinEntries_66 ?_
        refine x_iadd C dX1_joinEntries_67 ?_
        refine x_istore C dX1_joinEntries_68 (by decide) ?_
        refine x_aload_n C dX1_joinEntries_70 rfl ?_
        refine x_getfield C dX1_joinEntries_71 lfX1_9 hM (by omega) rfl ?_
        refine x_iload C dX1_joinEntries_74 rfl ?_
        refine x_ldc (v := -1000000) C dX1_joinEntries_76 kcX1_106 (by decide) ?_
        refine x_ldc (v := 1000000) C dX1_joinEntries_78 kcX1_107 (by decide) ?_
        refine x_iload C dX1_joinEntries_80 rfl ?_
        refine x_mmin C dX1_joinEntries_82 lmX1_108 (by decide) (Nat.le_of_ble_eq_true rfl) (by omega) ?_
        refine x_mmax C dX1_joinEntries_85 lmX1_46 (by decide) (Nat.le_of_ble_eq_true rfl) (by omega) ?_
        refine x_iastore C dX1_joinEntries_88 hE (by omega) ?_
        rw [sM_e, zsp_s e (fun j => zclp (e j + e2 j * x)) (by omega) (by rw [hat]; rfl)]
        refine x_iinc C dX1_joinEntries_89 rfl (by decide) ?_
        refine x_goto (tgt := 29) C dX1_joinEntries_92 (by decide) ?_
        refine x_weak C (Lo' := [some (zr h), some (zr h2), some (zi x), some (zi d), some (zi row), some (zi col), some (zi (q : Int)), some (zi (i : Int)), some (zi ((k + 1 : Nat) : Int)), none, none]) (fun j u hj => by match j, hj with | 0, hj => exact hj | 1, hj => exact hj | 2, hj => exact hj | 3, hj => exact hj | 4, hj => exact hj | 5, hj => exact hj | 6, hj => exact hj | 7, hj => exact hj | 8, hj => exact hj | j + 11, hj => exact absurd hj (by simp [zg])) ?_
        exact ih2 (by omega)
    refine x_iload C dX1_joinEntries_19 rfl ?_
    refine x_iload C dX1_joinEntries_21 rfl ?_
    refine x_icmp_ge (tgt := 101) C dX1_joinEntries_23 (by decide) (by omega) (fun c23 => ?_) (fun c23 => ?_)
    · exact x_vret (st := []) C dX1_joinEntries_101 rfl ⟨rfl, rfl, by rw [show i = q by omega, zsp_e], rfl⟩
    · refine x_iconst C dX1_joinEntries_26 ?_
      refine x_istore C dX1_joinEntries_27 (by decide) ?_
      exact loop2 (by omega) 0 (by omega)
  obtain ⟨hM, hE, hT, hh⟩ := hm
  have hm : isM σ n h e t := ⟨hM, hE, hT, hh⟩
  refine x_aload_n C dX1_joinEntries_0 rfl ?_
  refine x_iload_n C dX1_joinEntries_1 rfl ?_
  refine x_iload C dX1_joinEntries_2 rfl ?_
  refine x_iload C dX1_joinEntries_4 rfl ?_
  refine x_iconst C dX1_joinEntries_6 ?_
  refine x_callV C dX1_joinEntries_7 (ctX1_setSort2 hm d row col 1 hd (by omega) (by omega)) okX1_setSort lkX1_71 ⟨⟨hM, rfl, rfl⟩, (by omega)⟩ ⟨by decide, rfl, rfl, Nat.le_of_ble_eq_true rfl⟩ rfl (Or.inl ⟨rfl, rfl⟩) ?_
  refine x_iload_n C dX1_joinEntries_10 rfl ?_
  refine x_callSN C dX1_joinEntries_11 (ctX5_sizeAt d hd) okX5_sizeAt nkX1_24 ⟨by decide, rfl, rfl, Nat.le_of_ble_eq_true rfl⟩ rfl (Or.inl ⟨rfl, rfl⟩) ?_
  refine x_istore C dX1_joinEntries_14 (by decide) ?_
  refine x_iconst C dX1_joinEntries_16 ?_
  refine x_istore C dX1_joinEntries_17 (by decide) ?_
  rw [hq]
  have l0 := loop 0 (by omega)
  rw [show ((0 : Nat) : Int) = 0 from rfl, zsp_0] at l0
  exact l0
theorem ctX1_swap {a : Int} {L : Nat} {f : Int → Int} (hA : σ a = zA L f) (ha : 0 < a ∧ a ≤ n) (hL : (L : Int) < 2147483648) (i j : Int) (hi : 0 ≤ i ∧ i < L) (hj : 0 ≤ j ∧ j < L) : zCt 1 0 0 yX1_swap cX1_swap 4 none [zr a, zi i, zi j] n σ none n (zsu σ a (zA L (zu (zu f i (f j)) j (f i)))) := by
  refine zCt.of (by decide) rfl (Nat.le_of_ble_eq_true rfl) (fun K C => ?_)
  refine x_aload_n C dX1_swap_0 rfl ?_
  refine x_iload_n C dX1_swap_1 rfl ?_
  refine x_iaload C dX1_swap_2 hA (by omega) ?_
  refine x_istore_n C dX1_swap_3 (by decide) ?_
  refine x_aload_n C dX1_swap_4 rfl ?_
  refine x_iload_n C dX1_swap_5 rfl ?_
  refine x_aload_n C dX1_swap_6 rfl ?_
  refine x_iload_n C dX1_swap_7 rfl ?_
  refine x_iaload C dX1_swap_8 hA (by omega) ?_
  refine x_iastore C dX1_swap_9 hA (by omega) ?_
  refine x_nm (fun s9 e9 => ?_)
  have hA := (congrFun e9 a).trans (zsu_s _ _ _)
  refine x_aload_n C dX1_swap_10 rfl ?_
  refine x_iload_n C dX1_swap_11 rfl ?_
  refine x_iload_n C dX1_swap_12 rfl ?_
  refine x_iastore C dX1_swap_13 hA (by omega) ?_
  refine x_nm (fun s13 e13 => ?_)
  have hA := (congrFun e13 a).trans (zsu_s _ _ _)
  exact x_vret (st := []) C dX1_swap_14 rfl ⟨rfl, rfl, by rw [e13, e9, zsu_u], rfl⟩
end
end
