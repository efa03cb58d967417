section
-- ===== PART A: goes FIRST, ahead of the names: the tables' words, and 'selects' of the private methods out of them =====
/-- a private method of a class that the tables say can be made, by its rows of tables_1 -/
def lw_okq (q : MethodName × Nat) : Prop := (q.1.cls ≠ "java/lang/invoke/MethodHandle" ∧ q.1.cls ≠ "java/lang/invoke/VarHandle") ∧ Cond.instantiable q.1.cls q.2 ∈ tables_1 ∧ Cond.privateMethod q.1 ∈ tables_1 ∧ Cond.instanceMethod q.1 ∈ tables_1
theorem lw_p0 : lw_okq (⟨"SphereBench", "freeLattice", "()LSphereBench$Lattice;"⟩, 10) := ⟨⟨by decide +kernel, by decide +kernel⟩, List.mem_of_getElem? (i := 13) (by decide +kernel), List.mem_of_getElem? (i := 270) (by decide +kernel), List.mem_of_getElem? (i := 271) (by decide +kernel)⟩
theorem lw_p1 : lw_okq (⟨"SphereBench$Grid", "expand", "(IIII)J"⟩, 2) := ⟨⟨by decide +kernel, by decide +kernel⟩, List.mem_of_getElem? (i := 21) (by decide +kernel), List.mem_of_getElem? (i := 283) (by decide +kernel), List.mem_of_getElem? (i := 284) (by decide +kernel)⟩
theorem lw_p2 : lw_okq (⟨"SphereBench", "keepIfSmall", "(LSphereBench$Lattice;)I"⟩, 10) := ⟨⟨by decide +kernel, by decide +kernel⟩, List.mem_of_getElem? (i := 13) (by decide +kernel), List.mem_of_getElem? (i := 294) (by decide +kernel), List.mem_of_getElem? (i := 295) (by decide +kernel)⟩
theorem lw_p3 : lw_okq (⟨"SphereBench", "latticeAt", "(I)LSphereBench$Lattice;"⟩, 10) := ⟨⟨by decide +kernel, by decide +kernel⟩, List.mem_of_getElem? (i := 13) (by decide +kernel), List.mem_of_getElem? (i := 336) (by decide +kernel), List.mem_of_getElem? (i := 337) (by decide +kernel)⟩
theorem lw_p4 : lw_okq (⟨"SphereBench", "factOf", "(LSphereBench$Lattice;I)J"⟩, 10) := ⟨⟨by decide +kernel, by decide +kernel⟩, List.mem_of_getElem? (i := 13) (by decide +kernel), List.mem_of_getElem? (i := 345) (by decide +kernel), List.mem_of_getElem? (i := 346) (by decide +kernel)⟩
theorem lw_p5 : lw_okq (⟨"SphereBench", "countWays", "(LSphereBench$Lattice;LSphereBench$Lattice;Z)J"⟩, 10) := ⟨⟨by decide +kernel, by decide +kernel⟩, List.mem_of_getElem? (i := 13) (by decide +kernel), List.mem_of_getElem? (i := 350) (by decide +kernel), List.mem_of_getElem? (i := 351) (by decide +kernel)⟩
theorem lw_p6 : lw_okq (⟨"SphereBench$Sweep", "begin", "(LSphereBench$Lattice;IJLSphereBench$Book;)Z"⟩, 11) := ⟨⟨by decide +kernel, by decide +kernel⟩, List.mem_of_getElem? (i := 37) (by decide +kernel), List.mem_of_getElem? (i := 369) (by decide +kernel), List.mem_of_getElem? (i := 370) (by decide +kernel)⟩
theorem lw_p7 : lw_okq (⟨"SphereBench$Sweep", "setNumber", "(IJ)V"⟩, 11) := ⟨⟨by decide +kernel, by decide +kernel⟩, List.mem_of_getElem? (i := 37) (by decide +kernel), List.mem_of_getElem? (i := 417) (by decide +kernel), List.mem_of_getElem? (i := 418) (by decide +kernel)⟩
theorem lw_p8 : lw_okq (⟨"SphereBench$Sweep", "prepare", "()V"⟩, 11) := ⟨⟨by decide +kernel, by decide +kernel⟩, List.mem_of_getElem? (i := 37) (by decide +kernel), List.mem_of_getElem? (i := 425) (by decide +kernel), List.mem_of_getElem? (i := 426) (by decide +kernel)⟩
theorem lw_p9 : lw_okq (⟨"SphereBench$Sweep", "noteUpTo", "(JLSphereBench$Book;)Z"⟩, 11) := ⟨⟨by decide +kernel, by decide +kernel⟩, List.mem_of_getElem? (i := 37) (by decide +kernel), List.mem_of_getElem? (i := 434) (by decide +kernel), List.mem_of_getElem? (i := 435) (by decide +kernel)⟩
theorem lw_p10 : lw_okq (⟨"SphereBench$Sweep", "sizeFor", "(J)J"⟩, 11) := ⟨⟨by decide +kernel, by decide +kernel⟩, List.mem_of_getElem? (i := 37) (by decide +kernel), List.mem_of_getElem? (i := 438) (by decide +kernel), List.mem_of_getElem? (i := 439) (by decide +kernel)⟩
theorem lw_p11 : lw_okq (⟨"SphereBench$Sweep", "advance", "(LSphereBench$Book;)V"⟩, 11) := ⟨⟨by decide +kernel, by decide +kernel⟩, List.mem_of_getElem? (i := 37) (by decide +kernel), List.mem_of_getElem? (i := 446) (by decide +kernel), List.mem_of_getElem? (i := 447) (by decide +kernel)⟩
theorem lw_p12 : lw_okq (⟨"SphereBench$Book", "sink", "(II)V"⟩, 5) := ⟨⟨by decide +kernel, by decide +kernel⟩, List.mem_of_getElem? (i := 150) (by decide +kernel), List.mem_of_getElem? (i := 455) (by decide +kernel), List.mem_of_getElem? (i := 456) (by decide +kernel)⟩
theorem lw_p13 : lw_okq (⟨"SphereBench$Hunt", "choose", "(I)Z"⟩, 13) := ⟨⟨by decide +kernel, by decide +kernel⟩, List.mem_of_getElem? (i := 79) (by decide +kernel), List.mem_of_getElem? (i := 489) (by decide +kernel), List.mem_of_getElem? (i := 490) (by decide +kernel)⟩
theorem lw_p14 : lw_okq (⟨"SphereBench$Hunt", "meetsAsWanted", "(II)Z"⟩, 13) := ⟨⟨by decide +kernel, by decide +kernel⟩, List.mem_of_getElem? (i := 79) (by decide +kernel), List.mem_of_getElem? (i := 494) (by decide +kernel), List.mem_of_getElem? (i := 495) (by decide +kernel)⟩
theorem lw_p15 : lw_okq (⟨"SphereBench$Hunt", "hold", "(II)V"⟩, 13) := ⟨⟨by decide +kernel, by decide +kernel⟩, List.mem_of_getElem? (i := 79) (by decide +kernel), List.mem_of_getElem? (i := 498) (by decide +kernel), List.mem_of_getElem? (i := 499) (by decide +kernel)⟩
def lw_privs_1 : List (MethodName × Nat) := [(⟨"SphereBench", "freeLattice", "()LSphereBench$Lattice;"⟩, 10), (⟨"SphereBench$Grid", "expand", "(IIII)J"⟩, 2), (⟨"SphereBench", "keepIfSmall", "(LSphereBench$Lattice;)I"⟩, 10), (⟨"SphereBench", "latticeAt", "(I)LSphereBench$Lattice;"⟩, 10), (⟨"SphereBench", "factOf", "(LSphereBench$Lattice;I)J"⟩, 10), (⟨"SphereBench", "countWays", "(LSphereBench$Lattice;LSphereBench$Lattice;Z)J"⟩, 10), (⟨"SphereBench$Sweep", "begin", "(LSphereBench$Lattice;IJLSphereBench$Book;)Z"⟩, 11), (⟨"SphereBench$Sweep", "setNumber", "(IJ)V"⟩, 11), (⟨"SphereBench$Sweep", "prepare", "()V"⟩, 11), (⟨"SphereBench$Sweep", "noteUpTo", "(JLSphereBench$Book;)Z"⟩, 11), (⟨"SphereBench$Sweep", "sizeFor", "(J)J"⟩, 11), (⟨"SphereBench$Sweep", "advance", "(LSphereBench$Book;)V"⟩, 11), (⟨"SphereBench$Book", "sink", "(II)V"⟩, 5), (⟨"SphereBench$Hunt", "choose", "(I)Z"⟩, 13), (⟨"SphereBench$Hunt", "meetsAsWanted", "(II)Z"⟩, 13), (⟨"SphereBench$Hunt", "hold", "(II)V"⟩, 13)]
theorem lw_r1 : ∀ q ∈ lw_privs_1, lw_okq q := List.forall_mem_cons.mpr ⟨lw_p0, List.forall_mem_cons.mpr ⟨lw_p1, List.forall_mem_cons.mpr ⟨lw_p2, List.forall_mem_cons.mpr ⟨lw_p3, List.forall_mem_cons.mpr ⟨lw_p4, List.forall_mem_cons.mpr ⟨lw_p5, List.forall_mem_cons.mpr ⟨lw_p6, List.forall_mem_cons.mpr ⟨lw_p7, List.forall_mem_cons.mpr ⟨lw_p8, List.forall_mem_cons.mpr ⟨lw_p9, List.forall_mem_cons.mpr ⟨lw_p10, List.forall_mem_cons.mpr ⟨lw_p11, List.forall_mem_cons.mpr ⟨lw_p12, List.forall_mem_cons.mpr ⟨lw_p13, List.forall_mem_cons.mpr ⟨lw_p14, List.forall_mem_cons.mpr ⟨lw_p15, fun _ h => absurd h List.not_mem_nil⟩⟩⟩⟩⟩⟩⟩⟩⟩⟩⟩⟩⟩⟩⟩⟩
theorem lw_p16 : lw_okq (⟨"SphereBench$Hunt", "numberOf", "(II)I"⟩, 13) := ⟨⟨by decide +kernel, by decide +kernel⟩, List.mem_of_getElem? (i := 79) (by decide +kernel), List.mem_of_getElem? (i := 502) (by decide +kernel), List.mem_of_getElem? (i := 503) (by decide +kernel)⟩
theorem lw_p17 : lw_okq (⟨"SphereBench", "learnSteps", "(LSphereBench$Lattice;)V"⟩, 10) := ⟨⟨by decide +kernel, by decide +kernel⟩, List.mem_of_getElem? (i := 13) (by decide +kernel), List.mem_of_getElem? (i := 508) (by decide +kernel), List.mem_of_getElem? (i := 509) (by decide +kernel)⟩
theorem lw_p18 : lw_okq (⟨"SphereBench$Rank", "setFresh", "(LSphereBench$Book;II)V"⟩, 5) := ⟨⟨by decide +kernel, by decide +kernel⟩, List.mem_of_getElem? (i := 128) (by decide +kernel), List.mem_of_getElem? (i := 530) (by decide +kernel), List.mem_of_getElem? (i := 531) (by decide +kernel)⟩
theorem lw_p19 : lw_okq (⟨"SphereBench$Rank", "keepFreshIfNew", "()V"⟩, 5) := ⟨⟨by decide +kernel, by decide +kernel⟩, List.mem_of_getElem? (i := 128) (by decide +kernel), List.mem_of_getElem? (i := 539) (by decide +kernel), List.mem_of_getElem? (i := 540) (by decide +kernel)⟩
theorem lw_p20 : lw_okq (⟨"SphereBench$Rank", "strikeOut", "(II)V"⟩, 5) := ⟨⟨by decide +kernel, by decide +kernel⟩, List.mem_of_getElem? (i := 128) (by decide +kernel), List.mem_of_getElem? (i := 543) (by decide +kernel), List.mem_of_getElem? (i := 544) (by decide +kernel)⟩
theorem lw_p21 : lw_okq (⟨"SphereBench", "showSpare", "(I)I"⟩, 10) := ⟨⟨by decide +kernel, by decide +kernel⟩, List.mem_of_getElem? (i := 13) (by decide +kernel), List.mem_of_getElem? (i := 553) (by decide +kernel), List.mem_of_getElem? (i := 554) (by decide +kernel)⟩
theorem lw_p22 : lw_okq (⟨"SphereBench$Grid", "meeting", "(LSphereBench$Grid;II)J"⟩, 2) := ⟨⟨by decide +kernel, by decide +kernel⟩, List.mem_of_getElem? (i := 21) (by decide +kernel), List.mem_of_getElem? (i := 658) (by decide +kernel), List.mem_of_getElem? (i := 659) (by decide +kernel)⟩
theorem lw_p23 : lw_okq (⟨"SphereBench$Sweep", "sizeOfRounding", "(LSphereBench$Lattice;J)J"⟩, 11) := ⟨⟨by decide +kernel, by decide +kernel⟩, List.mem_of_getElem? (i := 37) (by decide +kernel), List.mem_of_getElem? (i := 694) (by decide +kernel), List.mem_of_getElem? (i := 695) (by decide +kernel)⟩
theorem lw_p24 : lw_okq (⟨"SphereBench$Sweep", "offer", "(JLSphereBench$Book;)V"⟩, 11) := ⟨⟨by decide +kernel, by decide +kernel⟩, List.mem_of_getElem? (i := 37) (by decide +kernel), List.mem_of_getElem? (i := 698) (by decide +kernel), List.mem_of_getElem? (i := 699) (by decide +kernel)⟩
theorem lw_p25 : lw_okq (⟨"SphereBenchModel", "determinant", "([JII)J"⟩, 26) := ⟨⟨by decide +kernel, by decide +kernel⟩, List.mem_of_getElem? (i := 711) (by decide +kernel), List.mem_of_getElem? (i := 820) (by decide +kernel), List.mem_of_getElem? (i := 821) (by decide +kernel)⟩
theorem lw_p26 : lw_okq (⟨"SphereBenchModel", "minor", "([JIIII)J"⟩, 26) := ⟨⟨by decide +kernel, by decide +kernel⟩, List.mem_of_getElem? (i := 711) (by decide +kernel), List.mem_of_getElem? (i := 825) (by decide +kernel), List.mem_of_getElem? (i := 826) (by decide +kernel)⟩
theorem lw_p27 : lw_okq (⟨"SphereBenchModel", "comes", "(I)I"⟩, 26) := ⟨⟨by decide +kernel, by decide +kernel⟩, List.mem_of_getElem? (i := 711) (by decide +kernel), List.mem_of_getElem? (i := 829) (by decide +kernel), List.mem_of_getElem? (i := 830) (by decide +kernel)⟩
theorem lw_p28 : lw_okq (⟨"SphereBenchModel", "isLattice", "(I)Z"⟩, 26) := ⟨⟨by decide +kernel, by decide +kernel⟩, List.mem_of_getElem? (i := 711) (by decide +kernel), List.mem_of_getElem? (i := 837) (by decide +kernel), List.mem_of_getElem? (i := 838) (by decide +kernel)⟩
theorem lw_p29 : lw_okq (⟨"SphereBenchModel", "find", "(IJ)Z"⟩, 26) := ⟨⟨by decide +kernel, by decide +kernel⟩, List.mem_of_getElem? (i := 711) (by decide +kernel), List.mem_of_getElem? (i := 850) (by decide +kernel), List.mem_of_getElem? (i := 851) (by decide +kernel)⟩
theorem lw_p30 : lw_okq (⟨"SphereBenchModel", "worth", "(I)J"⟩, 26) := ⟨⟨by decide +kernel, by decide +kernel⟩, List.mem_of_getElem? (i := 711) (by decide +kernel), List.mem_of_getElem? (i := 854) (by decide +kernel), List.mem_of_getElem? (i := 855) (by decide +kernel)⟩
theorem lw_p31 : lw_okq (⟨"SphereBenchModel", "co", "(III)J"⟩, 26) := ⟨⟨by decide +kernel, by decide +kernel⟩, List.mem_of_getElem? (i := 711) (by decide +kernel), List.mem_of_getElem? (i := 858) (by decide +kernel), List.mem_of_getElem? (i := 859) (by decide +kernel)⟩
def lw_privs_2 : List (MethodName × Nat) := [(⟨"SphereBench$Hunt", "numberOf", "(II)I"⟩, 13), (⟨"SphereBench", "learnSteps", "(LSphereBench$Lattice;)V"⟩, 10), (⟨"SphereBench$Rank", "setFresh", "(LSphereBench$Book;II)V"⟩, 5), (⟨"SphereBench$Rank", "keepFreshIfNew", "()V"⟩, 5), (⟨"SphereBench$Rank", "strikeOut", "(II)V"⟩, 5), (⟨"SphereBench", "showSpare", "(I)I"⟩, 10), (⟨"SphereBench$Grid", "meeting", "(LSphereBench$Grid;II)J"⟩, 2), (⟨"SphereBench$Sweep", "sizeOfRounding", "(LSphereBench$Lattice;J)J"⟩, 11), (⟨"SphereBench$Sweep", "offer", "(JLSphereBench$Book;)V"⟩, 11), (⟨"SphereBenchModel", "determinant", "([JII)J"⟩, 26), (⟨"SphereBenchModel", "minor", "([JIIII)J"⟩, 26), (⟨"SphereBenchModel", "comes", "(I)I"⟩, 26), (⟨"SphereBenchModel", "isLattice", "(I)Z"⟩, 26), (⟨"SphereBenchModel", "find", "(IJ)Z"⟩, 26), (⟨"SphereBenchModel", "worth", "(I)J"⟩, 26), (⟨"SphereBenchModel", "co", "(III)J"⟩, 26)]
theorem lw_r2 : ∀ q ∈ lw_privs_2, lw_okq q := List.forall_mem_cons.mpr ⟨lw_p16, List.forall_mem_cons.mpr ⟨lw_p17, List.forall_mem_cons.mpr ⟨lw_p18, List.forall_mem_cons.mpr ⟨lw_p19, List.forall_mem_cons.mpr ⟨lw_p20, List.forall_mem_cons.mpr ⟨lw_p21, List.forall_mem_cons.mpr ⟨lw_p22, List.forall_mem_cons.mpr ⟨lw_p23, List.forall_mem_cons.mpr ⟨lw_p24, List.forall_mem_cons.mpr ⟨lw_p25, List.forall_mem_cons.mpr ⟨lw_p26, List.forall_mem_cons.mpr ⟨lw_p27, List.forall_mem_cons.mpr ⟨lw_p28, List.forall_mem_cons.mpr ⟨lw_p29, List.forall_mem_cons.mpr ⟨lw_p30, List.forall_mem_cons.mpr ⟨lw_p31, fun _ h => absurd h List.not_mem_nil⟩⟩⟩⟩⟩⟩⟩⟩⟩⟩⟩⟩⟩⟩⟩⟩
theorem lw_p32 : lw_okq (⟨"SphereBenchModel", "isTooLarge", "(I)Z"⟩, 26) := ⟨⟨by decide +kernel, by decide +kernel⟩, List.mem_of_getElem? (i := 711) (by decide +kernel), List.mem_of_getElem? (i := 872) (by decide +kernel), List.mem_of_getElem? (i := 873) (by decide +kernel)⟩
theorem lw_p33 : lw_okq (⟨"SphereBenchModel", "meeting", "(I[JI[JI)J"⟩, 26) := ⟨⟨by decide +kernel, by decide +kernel⟩, List.mem_of_getElem? (i := 711) (by decide +kernel), List.mem_of_getElem? (i := 878) (by decide +kernel), List.mem_of_getElem? (i := 879) (by decide +kernel)⟩
theorem lw_p34 : lw_okq (⟨"SphereBenchModel", "isNought", "(I)Z"⟩, 26) := ⟨⟨by decide +kernel, by decide +kernel⟩, List.mem_of_getElem? (i := 711) (by decide +kernel), List.mem_of_getElem? (i := 882) (by decide +kernel), List.mem_of_getElem? (i := 883) (by decide +kernel)⟩
theorem lw_p35 : lw_okq (⟨"SphereBenchModel", "putIn", "(IJ)V"⟩, 26) := ⟨⟨by decide +kernel, by decide +kernel⟩, List.mem_of_getElem? (i := 711) (by decide +kernel), List.mem_of_getElem? (i := 886) (by decide +kernel), List.mem_of_getElem? (i := 887) (by decide +kernel)⟩
theorem lw_p36 : lw_okq (⟨"SphereBenchModel", "goesOn", "(I)Z"⟩, 26) := ⟨⟨by decide +kernel, by decide +kernel⟩, List.mem_of_getElem? (i := 711) (by decide +kernel), List.mem_of_getElem? (i := 890) (by decide +kernel), List.mem_of_getElem? (i := 891) (by decide +kernel)⟩
theorem lw_p37 : lw_okq (⟨"SphereBenchModel", "list", "(I)V"⟩, 26) := ⟨⟨by decide +kernel, by decide +kernel⟩, List.mem_of_getElem? (i := 711) (by decide +kernel), List.mem_of_getElem? (i := 894) (by decide +kernel), List.mem_of_getElem? (i := 895) (by decide +kernel)⟩
theorem lw_p38 : lw_okq (⟨"SphereBenchModel", "many", "(J)I"⟩, 26) := ⟨⟨by decide +kernel, by decide +kernel⟩, List.mem_of_getElem? (i := 711) (by decide +kernel), List.mem_of_getElem? (i := 902) (by decide +kernel), List.mem_of_getElem? (i := 903) (by decide +kernel)⟩
theorem lw_p39 : lw_okq (⟨"SphereBenchModel", "search", "(IIZ)I"⟩, 26) := ⟨⟨by decide +kernel, by decide +kernel⟩, List.mem_of_getElem? (i := 711) (by decide +kernel), List.mem_of_getElem? (i := 919) (by decide +kernel), List.mem_of_getElem? (i := 920) (by decide +kernel)⟩
theorem lw_p40 : lw_okq (⟨"SphereBenchModel", "meets", "(III)Z"⟩, 26) := ⟨⟨by decide +kernel, by decide +kernel⟩, List.mem_of_getElem? (i := 711) (by decide +kernel), List.mem_of_getElem? (i := 924) (by decide +kernel), List.mem_of_getElem? (i := 925) (by decide +kernel)⟩
theorem lw_p41 : lw_okq (⟨"SphereBenchModel", "findShort", "(I)Z"⟩, 26) := ⟨⟨by decide +kernel, by decide +kernel⟩, List.mem_of_getElem? (i := 711) (by decide +kernel), List.mem_of_getElem? (i := 928) (by decide +kernel), List.mem_of_getElem? (i := 929) (by decide +kernel)⟩
theorem lw_p42 : lw_okq (⟨"SphereBenchModel", "isPerfect", "(I)Z"⟩, 26) := ⟨⟨by decide +kernel, by decide +kernel⟩, List.mem_of_getElem? (i := 711) (by decide +kernel), List.mem_of_getElem? (i := 933) (by decide +kernel), List.mem_of_getElem? (i := 934) (by decide +kernel)⟩
theorem lw_p43 : lw_okq (⟨"SphereBenchModel", "rank", "(IJ)I"⟩, 26) := ⟨⟨by decide +kernel, by decide +kernel⟩, List.mem_of_getElem? (i := 711) (by decide +kernel), List.mem_of_getElem? (i := 954) (by decide +kernel), List.mem_of_getElem? (i := 955) (by decide +kernel)⟩
theorem lw_p44 : lw_okq (⟨"SphereBenchModel", "joins", "(IJ)Z"⟩, 26) := ⟨⟨by decide +kernel, by decide +kernel⟩, List.mem_of_getElem? (i := 711) (by decide +kernel), List.mem_of_getElem? (i := 961) (by decide +kernel), List.mem_of_getElem? (i := 962) (by decide +kernel)⟩
theorem lw_p45 : lw_okq (⟨"SphereBenchModel", "shortens", "(I)Z"⟩, 26) := ⟨⟨by decide +kernel, by decide +kernel⟩, List.mem_of_getElem? (i := 711) (by decide +kernel), List.mem_of_getElem? (i := 972) (by decide +kernel), List.mem_of_getElem? (i := 973) (by decide +kernel)⟩
theorem lw_p46 : lw_okq (⟨"SphereBenchModel", "order", "(I)V"⟩, 26) := ⟨⟨by decide +kernel, by decide +kernel⟩, List.mem_of_getElem? (i := 711) (by decide +kernel), List.mem_of_getElem? (i := 976) (by decide +kernel), List.mem_of_getElem? (i := 977) (by decide +kernel)⟩
theorem lw_p47 : lw_okq (⟨"SphereBenchModel", "change", "(III)V"⟩, 26) := ⟨⟨by decide +kernel, by decide +kernel⟩, List.mem_of_getElem? (i := 711) (by decide +kernel), List.mem_of_getElem? (i := 980) (by decide +kernel), List.mem_of_getElem? (i := 981) (by decide +kernel)⟩
def lw_privs_3 : List (MethodName × Nat) := [(⟨"SphereBenchModel", "isTooLarge", "(I)Z"⟩, 26), (⟨"SphereBenchModel", "meeting", "(I[JI[JI)J"⟩, 26), (⟨"SphereBenchModel", "isNought", "(I)Z"⟩, 26), (⟨"SphereBenchModel", "putIn", "(IJ)V"⟩, 26), (⟨"SphereBenchModel", "goesOn", "(I)Z"⟩, 26), (⟨"SphereBenchModel", "list", "(I)V"⟩, 26), (⟨"SphereBenchModel", "many", "(J)I"⟩, 26), (⟨"SphereBenchModel", "search", "(IIZ)I"⟩, 26), (⟨"SphereBenchModel", "meets", "(III)Z"⟩, 26), (⟨"SphereBenchModel", "findShort", "(I)Z"⟩, 26), (⟨"SphereBenchModel", "isPerfect", "(I)Z"⟩, 26), (⟨"SphereBenchModel", "rank", "(IJ)I"⟩, 26), (⟨"SphereBenchModel", "joins", "(IJ)Z"⟩, 26), (⟨"SphereBenchModel", "shortens", "(I)Z"⟩, 26), (⟨"SphereBenchModel", "order", "(I)V"⟩, 26), (⟨"SphereBenchModel", "change", "(III)V"⟩, 26)]
theorem lw_r3 : ∀ q ∈ lw_privs_3, lw_okq q := List.forall_mem_cons.mpr ⟨lw_p32, List.forall_mem_cons.mpr ⟨lw_p33, List.forall_mem_cons.mpr ⟨lw_p34, List.forall_mem_cons.mpr ⟨lw_p35, List.forall_mem_cons.mpr ⟨lw_p36, List.forall_mem_cons.mpr ⟨lw_p37, List.forall_mem_cons.mpr ⟨lw_p38, List.forall_mem_cons.mpr ⟨lw_p39, List.forall_mem_cons.mpr ⟨lw_p40, List.forall_mem_cons.mpr ⟨lw_p41, List.forall_mem_cons.mpr ⟨lw_p42, List.forall_mem_cons.mpr ⟨lw_p43, List.forall_mem_cons.mpr ⟨lw_p44, List.forall_mem_cons.mpr ⟨lw_p45, List.forall_mem_cons.mpr ⟨lw_p46, List.forall_mem_cons.mpr ⟨lw_p47, fun _ h => absurd h List.not_mem_nil⟩⟩⟩⟩⟩⟩⟩⟩⟩⟩⟩⟩⟩⟩⟩⟩
theorem lw_p48 : lw_okq (⟨"SphereBenchModel", "keepWay", "(I)V"⟩, 26) := ⟨⟨by decide +kernel, by decide +kernel⟩, List.mem_of_getElem? (i := 711) (by decide +kernel), List.mem_of_getElem? (i := 984) (by decide +kernel), List.mem_of_getElem? (i := 985) (by decide +kernel)⟩
theorem lw_p49 : lw_okq (⟨"SphereBenchModel", "offSize", "(II)J"⟩, 26) := ⟨⟨by decide +kernel, by decide +kernel⟩, List.mem_of_getElem? (i := 711) (by decide +kernel), List.mem_of_getElem? (i := 1036) (by decide +kernel), List.mem_of_getElem? (i := 1037) (by decide +kernel)⟩
def lw_privs_4 : List (MethodName × Nat) := [(⟨"SphereBenchModel", "keepWay", "(I)V"⟩, 26), (⟨"SphereBenchModel", "offSize", "(II)J"⟩, 26)]
theorem lw_r4 : ∀ q ∈ lw_privs_4, lw_okq q := List.forall_mem_cons.mpr ⟨lw_p48, List.forall_mem_cons.mpr ⟨lw_p49, fun _ h => absurd h List.not_mem_nil⟩⟩
def lw_privs : List (MethodName × Nat) := lw_privs_1 ++ (lw_privs_2 ++ (lw_privs_3 ++ (lw_privs_4)))
def lw_tbl : List Cond := k2_sels lw_privs ++ tables_1
theorem lw_privs_ok : ∀ q ∈ lw_privs, lw_okq q := by
  show ∀ q ∈ lw_privs_1 ++ (lw_privs_2 ++ (lw_privs_3 ++ (lw_privs_4))), lw_okq q
  exact List.forall_mem_append.mpr ⟨lw_r1, List.forall_mem_append.mpr ⟨lw_r2, List.forall_mem_append.mpr ⟨lw_r3, lw_r4⟩⟩⟩
def RX0 : String := "SphereBench$Book"
def TX0 : u_T := fun k => match k with
  | 0 => ("SphereBench$Book", "ways", "I", false)
  | 1 => ("SphereBench$Book", "count", "I", false)
  | 2 => ("SphereBench$Book", "low", "[J", true)
  | 3 => ("SphereBench$Book", "span", "[J", true)
  | _ => ("SphereBench$Book", "keys", "[J", true)
def tyX0 : Nat → FieldType := fun k => match k with
  | 0 => .int
  | 1 => .int
  | 2 => .array .long
  | 3 => .array .long
  | _ => .array .long
theorem nmX0 : ∀ a, a < 5 → ∀ b, b < 5 → a ≠ b → (TX0 a).2.1 ≠ (TX0 b).2.1 := by decide +kernel
theorem tyX0_ok : ∀ k, k < 5 → parseFieldDescriptor (TX0 k).2.2.1 = some (tyX0 k) := by decide +kernel
abbrev cX0_init : ByteArray := prog_2_method_1_code
def yX0_init : MethodName := ⟨RX0, "<init>", "()V"⟩
abbrev cX0_ways : ByteArray := prog_2_method_2_code
def yX0_ways : MethodName := ⟨RX0, "ways", "()I"⟩
abbrev cX0_count : ByteArray := prog_2_method_3_code
def yX0_count : MethodName := ⟨RX0, "count", "()I"⟩
abbrev cX0_has : ByteArray := prog_2_method_4_code
def yX0_has : MethodName := ⟨RX0, "has", "(II)Z"⟩
abbrev cX0_open : ByteArray := prog_2_method_5_code
def yX0_open : MethodName := ⟨RX0, "open", "(I)V"⟩
abbrev cX0_forgetRows : ByteArray := prog_2_method_6_code
def yX0_forgetRows : MethodName := ⟨RX0, "forgetRows", "()V"⟩
abbrev cX0_setRange : ByteArray := prog_2_method_7_code
def yX0_setRange : MethodName := ⟨RX0, "setRange", "(IJJ)V"⟩
abbrev cX0_lowest : ByteArray := prog_2_method_8_code
def yX0_lowest : MethodName := ⟨RX0, "lowest", "(I)J"⟩
abbrev cX0_span : ByteArray := prog_2_method_9_code
def yX0_span : MethodName := ⟨RX0, "span", "(I)J"⟩
abbrev cX0_boxCount : ByteArray := prog_2_method_10_code
def yX0_boxCount : MethodName := ⟨RX0, "boxCount", "()J"⟩
abbrev cX0_widest : ByteArray := prog_2_method_11_code
def yX0_widest : MethodName := ⟨RX0, "widest", "()I"⟩
abbrev cX0_note : ByteArray := prog_2_method_12_code
def yX0_note : MethodName := ⟨RX0, "note", "(J[J)Z"⟩
abbrev cX0_sizeAt : ByteArray := prog_2_method_13_code
def yX0_sizeAt : MethodName := ⟨RX0, "sizeAt", "(I)J"⟩
abbrev cX0_numberAt : ByteArray := prog_2_method_14_code
def yX0_numberAt : MethodName := ⟨RX0, "numberAt", "(II)I"⟩
abbrev cX0_firstAbove : ByteArray := prog_2_method_15_code
def yX0_firstAbove : MethodName := ⟨RX0, "firstAbove", "(J)I"⟩
abbrev cX0_sort : ByteArray := prog_2_method_16_code
def yX0_sort : MethodName := ⟨RX0, "sort", "()V"⟩
abbrev cX0_sink : ByteArray := prog_2_method_17_code
def yX0_sink : MethodName := ⟨RX0, "sink", "(II)V"⟩
def RX1 : String := "SphereBench$Grid"
def TX1 : u_T := fun k => match k with
  | 0 => ("SphereBench$Grid", "lines", "I", false)
  | _ => ("SphereBench$Grid", "numbers", "[J", true)
def tyX1 : Nat → FieldType := fun k => match k with
  | 0 => .int
  | _ => .array .long
theorem nmX1 : ∀ a, a < 2 → ∀ b, b < 2 → a ≠ b → (TX1 a).2.1 ≠ (TX1 b).2.1 := by decide +kernel
theorem tyX1_ok : ∀ k, k < 2 → parseFieldDescriptor (TX1 k).2.2.1 = some (tyX1 k) := by decide +kernel
abbrev cX1_init : ByteArray := prog_3_method_1_code
def yX1_init : MethodName := ⟨RX1, "<init>", "()V"⟩
abbrev cX1_lines : ByteArray := prog_3_method_2_code
def yX1_lines : MethodName := ⟨RX1, "lines", "()I"⟩
abbrev cX1_open : ByteArray := prog_3_method_3_code
def yX1_open : MethodName := ⟨RX1, "open", "(I)V"⟩
abbrev cX1_has : ByteArray := prog_3_method_4_code
def yX1_has : MethodName := ⟨RX1, "has", "(II)Z"⟩
abbrev cX1_at : ByteArray := prog_3_method_5_code
def yX1_at : MethodName := ⟨RX1, "at", "(II)J"⟩
abbrev cX1_put : ByteArray := prog_3_method_6_code
def yX1_put : MethodName := ⟨RX1, "put", "(IIJ)V"⟩
abbrev cX1_copy : ByteArray := prog_3_method_7_code
def yX1_copy : MethodName := ⟨RX1, "copy", "(LSphereBench$Grid;)V"⟩
abbrev cX1_lay : ByteArray := prog_3_method_8_code
def yX1_lay : MethodName := ⟨RX1, "lay", "(LSphereBench$Grid;I)V"⟩
abbrev cX1_multiply : ByteArray := prog_3_method_9_code
def yX1_multiply : MethodName := ⟨RX1, "multiply", "(J)V"⟩
abbrev cX1_openMeetings : ByteArray := prog_3_method_10_code
def yX1_openMeetings : MethodName := ⟨RX1, "openMeetings", "(LSphereBench$Grid;LSphereBench$Grid;)V"⟩
abbrev cX1_meeting : ByteArray := prog_3_method_11_code
def yX1_meeting : MethodName := ⟨RX1, "meeting", "(LSphereBench$Grid;II)J"⟩
abbrev cX1_lineBy : ByteArray := prog_3_method_12_code
def yX1_lineBy : MethodName := ⟨RX1, "lineBy", "(I[J)J"⟩
abbrev cX1_takeLineAway : ByteArray := prog_3_method_13_code
def yX1_takeLineAway : MethodName := ⟨RX1, "takeLineAway", "(IIJ)V"⟩
abbrev cX1_takePlaceAway : ByteArray := prog_3_method_14_code
def yX1_takePlaceAway : MethodName := ⟨RX1, "takePlaceAway", "(IIJ)V"⟩
abbrev cX1_swapLines : ByteArray := prog_3_method_15_code
def yX1_swapLines : MethodName := ⟨RX1, "swapLines", "(II)V"⟩
abbrev cX1_swapPlaces : ByteArray := prog_3_method_16_code
def yX1_swapPlaces : MethodName := ⟨RX1, "swapPlaces", "(II)V"⟩
abbrev cX1_isSmall : ByteArray := prog_3_method_17_code
def yX1_isSmall : MethodName := ⟨RX1, "isSmall", "()Z"⟩
abbrev cX1_isEvenAcross : ByteArray := prog_3_method_18_code
def yX1_isEvenAcross : MethodName := ⟨RX1, "isEvenAcross", "()Z"⟩
abbrev cX1_leastAcross : ByteArray := prog_3_method_19_code
def yX1_leastAcross : MethodName := ⟨RX1, "leastAcross", "()I"⟩
abbrev cX1_greatestAcross : ByteArray := prog_3_method_20_code
def yX1_greatestAcross : MethodName := ⟨RX1, "greatestAcross", "()I"⟩
abbrev cX1_firstUnlikeLine : ByteArray := prog_3_method_21_code
def yX1_firstUnlikeLine : MethodName := ⟨RX1, "firstUnlikeLine", "()I"⟩
abbrev cX1_firstFlatCorner : ByteArray := prog_3_method_22_code
def yX1_firstFlatCorner : MethodName := ⟨RX1, "firstFlatCorner", "()I"⟩
abbrev cX1_determinant : ByteArray := prog_3_method_23_code
def yX1_determinant : MethodName := ⟨RX1, "determinant", "()J"⟩
abbrev cX1_cofactor : ByteArray := prog_3_method_24_code
def yX1_cofactor : MethodName := ⟨RX1, "cofactor", "(II)J"⟩
abbrev cX1_expand : ByteArray := prog_3_method_25_code
def yX1_expand : MethodName := ⟨RX1, "expand", "(IIII)J"⟩
def RX2 : String := "SphereBench$Hunt"
def TX2 : u_T := fun k => match k with
  | 0 => ("SphereBench$Hunt", "ways", "I", false)
  | 1 => ("SphereBench$Hunt", "tries", "I", false)
  | 2 => ("SphereBench$Hunt", "found", "J", false)
  | 3 => ("SphereBench$Hunt", "firstOnly", "Z", false)
  | 4 => ("SphereBench$Hunt", "spent", "Z", false)
  | 5 => ("SphereBench$Hunt", "form", "LSphereBench$Grid;", true)
  | 6 => ("SphereBench$Hunt", "wanted", "LSphereBench$Grid;", true)
  | 7 => ("SphereBench$Hunt", "begin", "[I", true)
  | 8 => ("SphereBench$Hunt", "end", "[I", true)
  | 9 => ("SphereBench$Hunt", "chosen", "[I", true)
  | 10 => ("SphereBench$Hunt", "numbers", "[I", true)
  | 11 => ("SphereBench$Hunt", "held", "[J", true)
  | _ => ("SphereBench$Hunt", "pulls", "[J", true)
def tyX2 : Nat → FieldType := fun k => match k with
  | 0 => .int
  | 1 => .int
  | 2 => .long
  | 3 => .boolean
  | 4 => .boolean
  | 5 => .object "SphereBench$Grid"
  | 6 => .object "SphereBench$Grid"
  | 7 => .array .int
  | 8 => .array .int
  | 9 => .array .int
  | 10 => .array .int
  | 11 => .array .long
  | _ => .array .long
theorem nmX2 : ∀ a, a < 13 → ∀ b, b < 13 → a ≠ b → (TX2 a).2.1 ≠ (TX2 b).2.1 := by decide +kernel
theorem tyX2_ok : ∀ k, k < 13 → parseFieldDescriptor (TX2 k).2.2.1 = some (tyX2 k) := by decide +kernel
abbrev cX2_init : ByteArray := prog_4_method_1_code
def yX2_init : MethodName := ⟨RX2, "<init>", "()V"⟩
abbrev cX2_count : ByteArray := prog_4_method_2_code
def yX2_count : MethodName := ⟨RX2, "count", "(LSphereBench$Grid;LSphereBench$Grid;LSphereBench$Book;Z)J"⟩
abbrev cX2_tellWay : ByteArray := prog_4_method_3_code
def yX2_tellWay : MethodName := ⟨RX2, "tellWay", "(LSphereBench$Grid;)V"⟩
abbrev cX2_numberOf : ByteArray := prog_4_method_4_code
def yX2_numberOf : MethodName := ⟨RX2, "numberOf", "(II)I"⟩
abbrev cX2_choose : ByteArray := prog_4_method_5_code
def yX2_choose : MethodName := ⟨RX2, "choose", "(I)Z"⟩
abbrev cX2_meetsAsWanted : ByteArray := prog_4_method_6_code
def yX2_meetsAsWanted : MethodName := ⟨RX2, "meetsAsWanted", "(II)Z"⟩
abbrev cX2_hold : ByteArray := prog_4_method_7_code
def yX2_hold : MethodName := ⟨RX2, "hold", "(II)V"⟩
def RX3 : String := "SphereBench$Lattice"
def TX3 : u_T := fun k => match k with
  | 0 => ("SphereBench$Lattice", "form", "LSphereBench$Grid;", true)
  | 1 => ("SphereBench$Lattice", "co", "LSphereBench$Grid;", true)
  | 2 => ("SphereBench$Lattice", "facts", "[J", true)
  | _ => ("SphereBench$Lattice", "worth", "J", false)
def tyX3 : Nat → FieldType := fun k => match k with
  | 0 => .object "SphereBench$Grid"
  | 1 => .object "SphereBench$Grid"
  | 2 => .array .long
  | _ => .long
theorem nmX3 : ∀ a, a < 4 → ∀ b, b < 4 → a ≠ b → (TX3 a).2.1 ≠ (TX3 b).2.1 := by decide +kernel
theorem tyX3_ok : ∀ k, k < 4 → parseFieldDescriptor (TX3 k).2.2.1 = some (tyX3 k) := by decide +kernel
abbrev cX3_init : ByteArray := prog_5_method_1_code
def yX3_init : MethodName := ⟨RX3, "<init>", "()V"⟩
abbrev cX3_ways : ByteArray := prog_5_method_2_code
def yX3_ways : MethodName := ⟨RX3, "ways", "()I"⟩
abbrev cX3_settle : ByteArray := prog_5_method_3_code
def yX3_settle : MethodName := ⟨RX3, "settle", "()V"⟩
abbrev cX3_setStepFacts : ByteArray := prog_5_method_4_code
def yX3_setStepFacts : MethodName := ⟨RX3, "setStepFacts", "(JJJ)V"⟩
def RX4 : String := "SphereBench$Rank"
def TX4 : u_T := fun k => match k with
  | 0 => ("SphereBench$Rank", "pairs", "I", false)
  | 1 => ("SphereBench$Rank", "kept", "I", false)
  | 2 => ("SphereBench$Rank", "fresh", "[J", true)
  | 3 => ("SphereBench$Rank", "tables", "[J", true)
  | _ => ("SphereBench$Rank", "leads", "[I", true)
def tyX4 : Nat → FieldType := fun k => match k with
  | 0 => .int
  | 1 => .int
  | 2 => .array .long
  | 3 => .array .long
  | _ => .array .int
theorem nmX4 : ∀ a, a < 5 → ∀ b, b < 5 → a ≠ b → (TX4 a).2.1 ≠ (TX4 b).2.1 := by decide +kernel
theorem tyX4_ok : ∀ k, k < 5 → parseFieldDescriptor (TX4 k).2.2.1 = some (tyX4 k) := by decide +kernel
abbrev cX4_init : ByteArray := prog_6_method_1_code
def yX4_init : MethodName := ⟨RX4, "<init>", "()V"⟩
abbrev cX4_isFull : ByteArray := prog_6_method_2_code
def yX4_isFull : MethodName := ⟨RX4, "isFull", "(LSphereBench$Book;I)Z"⟩
abbrev cX4_setFresh : ByteArray := prog_6_method_3_code
def yX4_setFresh : MethodName := ⟨RX4, "setFresh", "(LSphereBench$Book;II)V"⟩
abbrev cX4_keepFreshIfNew : ByteArray := prog_6_method_4_code
def yX4_keepFreshIfNew : MethodName := ⟨RX4, "keepFreshIfNew", "()V"⟩
abbrev cX4_strikeOut : ByteArray := prog_6_method_5_code
def yX4_strikeOut : MethodName := ⟨RX4, "strikeOut", "(II)V"⟩
def RX5 : String := "SphereBench$Sweep"
def TX5 : u_T := fun k => match k with
  | 0 => ("SphereBench$Sweep", "q", "I", false)
  | 1 => ("SphereBench$Sweep", "free", "I", false)
  | 2 => ("SphereBench$Sweep", "square", "J", false)
  | 3 => ("SphereBench$Sweep", "slope", "J", false)
  | 4 => ("SphereBench$Sweep", "rest", "J", false)
  | 5 => ("SphereBench$Sweep", "best", "J", false)
  | 6 => ("SphereBench$Sweep", "overfull", "Z", false)
  | 7 => ("SphereBench$Sweep", "form", "LSphereBench$Grid;", true)
  | 8 => ("SphereBench$Sweep", "p", "[J", true)
  | 9 => ("SphereBench$Sweep", "x", "[J", true)
  | _ => ("SphereBench$Sweep", "z", "[J", true)
def tyX5 : Nat → FieldType := fun k => match k with
  | 0 => .int
  | 1 => .int
  | 2 => .long
  | 3 => .long
  | 4 => .long
  | 5 => .long
  | 6 => .boolean
  | 7 => .object "SphereBench$Grid"
  | 8 => .array .long
  | 9 => .array .long
  | _ => .array .long
theorem nmX5 : ∀ a, a < 11 → ∀ b, b < 11 → a ≠ b → (TX5 a).2.1 ≠ (TX5 b).2.1 := by decide +kernel
theorem tyX5_ok : ∀ k, k < 11 → parseFieldDescriptor (TX5 k).2.2.1 = some (tyX5 k) := by decide +kernel
abbrev cX5_init : ByteArray := prog_7_method_1_code
def yX5_init : MethodName := ⟨RX5, "<init>", "()V"⟩
abbrev cX5_aimAt : ByteArray := prog_7_method_2_code
def yX5_aimAt : MethodName := ⟨RX5, "aimAt", "(IIII)V"⟩
abbrev cX5_aimIsNear : ByteArray := prog_7_method_3_code
def yX5_aimIsNear : MethodName := ⟨RX5, "aimIsNear", "(I)Z"⟩
abbrev cX5_gatherUpTo : ByteArray := prog_7_method_4_code
def yX5_gatherUpTo : MethodName := ⟨RX5, "gatherUpTo", "(LSphereBench$Lattice;ILSphereBench$Book;)I"⟩
abbrev cX5_gatherNearest : ByteArray := prog_7_method_5_code
def yX5_gatherNearest : MethodName := ⟨RX5, "gatherNearest", "(LSphereBench$Lattice;ILSphereBench$Book;)I"⟩
abbrev cX5_sizeOfRounding : ByteArray := prog_7_method_6_code
def yX5_sizeOfRounding : MethodName := ⟨RX5, "sizeOfRounding", "(LSphereBench$Lattice;J)J"⟩
abbrev cX5_begin : ByteArray := prog_7_method_7_code
def yX5_begin : MethodName := ⟨RX5, "begin", "(LSphereBench$Lattice;IJLSphereBench$Book;)Z"⟩
abbrev cX5_setNumber : ByteArray := prog_7_method_8_code
def yX5_setNumber : MethodName := ⟨RX5, "setNumber", "(IJ)V"⟩
abbrev cX5_advance : ByteArray := prog_7_method_9_code
def yX5_advance : MethodName := ⟨RX5, "advance", "(LSphereBench$Book;)V"⟩
abbrev cX5_prepare : ByteArray := prog_7_method_10_code
def yX5_prepare : MethodName := ⟨RX5, "prepare", "()V"⟩
abbrev cX5_sizeFor : ByteArray := prog_7_method_11_code
def yX5_sizeFor : MethodName := ⟨RX5, "sizeFor", "(J)J"⟩
abbrev cX5_noteUpTo : ByteArray := prog_7_method_12_code
def yX5_noteUpTo : MethodName := ⟨RX5, "noteUpTo", "(JLSphereBench$Book;)Z"⟩
abbrev cX5_offer : ByteArray := prog_7_method_13_code
def yX5_offer : MethodName := ⟨RX5, "offer", "(JLSphereBench$Book;)V"⟩
abbrev cX5_rootOf : ByteArray := prog_7_method_14_code
def yX5_rootOf : MethodName := ⟨RX5, "rootOf", "(J)J"⟩
abbrev cX5_floorOf : ByteArray := prog_7_method_15_code
def yX5_floorOf : MethodName := ⟨RX5, "floorOf", "(JJ)J"⟩
abbrev cX5_ceilingOf : ByteArray := prog_7_method_16_code
def yX5_ceilingOf : MethodName := ⟨RX5, "ceilingOf", "(JJ)J"⟩
def RX6 : String := "SphereBench"
def TX6 : u_T := fun k => match k with
  | 0 => ("SphereBench", "page", "LSphereBench$Grid;", true)
  | 1 => ("SphereBench", "keptWay", "LSphereBench$Grid;", true)
  | 2 => ("SphereBench", "trialWay", "LSphereBench$Grid;", true)
  | 3 => ("SphereBench", "shelf", "[LSphereBench$Lattice;", true)
  | 4 => ("SphereBench", "sweep", "LSphereBench$Sweep;", true)
  | 5 => ("SphereBench", "hunt", "LSphereBench$Hunt;", true)
  | 6 => ("SphereBench", "rank", "LSphereBench$Rank;", true)
  | 7 => ("SphereBench", "lattices", "I", false)
  | 8 => ("SphereBench", "list", "LSphereBench$Book;", false)
  | _ => ("SphereBench", "spare", "LSphereBench$Book;", false)
def tyX6 : Nat → FieldType := fun k => match k with
  | 0 => .object "SphereBench$Grid"
  | 1 => .object "SphereBench$Grid"
  | 2 => .object "SphereBench$Grid"
  | 3 => .array (.object "SphereBench$Lattice")
  | 4 => .object "SphereBench$Sweep"
  | 5 => .object "SphereBench$Hunt"
  | 6 => .object "SphereBench$Rank"
  | 7 => .int
  | 8 => .object "SphereBench$Book"
  | _ => .object "SphereBench$Book"
theorem nmX6 : ∀ a, a < 10 → ∀ b, b < 10 → a ≠ b → (TX6 a).2.1 ≠ (TX6 b).2.1 := by decide +kernel
theorem tyX6_ok : ∀ k, k < 10 → parseFieldDescriptor (TX6 k).2.2.1 = some (tyX6 k) := by decide +kernel
abbrev cX6_init : ByteArray := prog_1_method_1_code
def yX6_init : MethodName := ⟨RX6, "<init>", "()V"⟩
abbrev cX6_sheet : ByteArray := prog_1_method_2_code
def yX6_sheet : MethodName := ⟨RX6, "sheet", "(I)Z"⟩
abbrev cX6_cell : ByteArray := prog_1_method_3_code
def yX6_cell : MethodName := ⟨RX6, "cell", "(III)Z"⟩
abbrev cX6_cellOf : ByteArray := prog_1_method_4_code
def yX6_cellOf : MethodName := ⟨RX6, "cellOf", "(II)I"⟩
abbrev cX6_take : ByteArray := prog_1_method_5_code
def yX6_take : MethodName := ⟨RX6, "take", "()I"⟩
abbrev cX6_table : ByteArray := prog_1_method_6_code
def yX6_table : MethodName := ⟨RX6, "table", "(III)I"⟩
abbrev cX6_about : ByteArray := prog_1_method_7_code
def yX6_about : MethodName := ⟨RX6, "about", "(II)J"⟩
abbrev cX6_rows : ByteArray := prog_1_method_8_code
def yX6_rows : MethodName := ⟨RX6, "rows", "(II)I"⟩
abbrev cX6_theta : ByteArray := prog_1_method_9_code
def yX6_theta : MethodName := ⟨RX6, "theta", "(II)I"⟩
abbrev cX6_row : ByteArray := prog_1_method_10_code
def yX6_row : MethodName := ⟨RX6, "row", "(II)I"⟩
abbrev cX6_size : ByteArray := prog_1_method_11_code
def yX6_size : MethodName := ⟨RX6, "size", "(I)J"⟩
abbrev cX6_reduce : ByteArray := prog_1_method_12_code
def yX6_reduce : MethodName := ⟨RX6, "reduce", "(I)I"⟩
abbrev cX6_same : ByteArray := prog_1_method_13_code
def yX6_same : MethodName := ⟨RX6, "same", "(II)I"⟩
abbrev cX6_way : ByteArray := prog_1_method_14_code
def yX6_way : MethodName := ⟨RX6, "way", "(II)I"⟩
abbrev cX6_wayWorth : ByteArray := prog_1_method_15_code
def yX6_wayWorth : MethodName := ⟨RX6, "wayWorth", "()J"⟩
abbrev cX6_dual : ByteArray := prog_1_method_16_code
def yX6_dual : MethodName := ⟨RX6, "dual", "(I)I"⟩
abbrev cX6_sum : ByteArray := prog_1_method_17_code
def yX6_sum : MethodName := ⟨RX6, "sum", "(II)I"⟩
abbrev cX6_scale : ByteArray := prog_1_method_18_code
def yX6_scale : MethodName := ⟨RX6, "scale", "(II)I"⟩
abbrev cX6_within : ByteArray := prog_1_method_19_code
def yX6_within : MethodName := ⟨RX6, "within", "(I)I"⟩
abbrev cX6_index : ByteArray := prog_1_method_20_code
def yX6_index : MethodName := ⟨RX6, "index", "()J"⟩
abbrev cX6_denser : ByteArray := prog_1_method_21_code
def yX6_denser : MethodName := ⟨RX6, "denser", "(II)I"⟩
abbrev cX6_nearest : ByteArray := prog_1_method_22_code
def yX6_nearest : MethodName := ⟨RX6, "nearest", "(IIIIII)I"⟩
abbrev cX6_told : ByteArray := prog_1_method_23_code
def yX6_told : MethodName := ⟨RX6, "told", "(I)I"⟩
abbrev cX6_latticeAt : ByteArray := prog_1_method_24_code
def yX6_latticeAt : MethodName := ⟨RX6, "latticeAt", "(I)LSphereBench$Lattice;"⟩
abbrev cX6_freeLattice : ByteArray := prog_1_method_25_code
def yX6_freeLattice : MethodName := ⟨RX6, "freeLattice", "()LSphereBench$Lattice;"⟩
abbrev cX6_keepIfSmall : ByteArray := prog_1_method_26_code
def yX6_keepIfSmall : MethodName := ⟨RX6, "keepIfSmall", "(LSphereBench$Lattice;)I"⟩
abbrev cX6_showSpare : ByteArray := prog_1_method_27_code
def yX6_showSpare : MethodName := ⟨RX6, "showSpare", "(I)I"⟩
abbrev cX6_factOf : ByteArray := prog_1_method_28_code
def yX6_factOf : MethodName := ⟨RX6, "factOf", "(LSphereBench$Lattice;I)J"⟩
abbrev cX6_learnSteps : ByteArray := prog_1_method_29_code
def yX6_learnSteps : MethodName := ⟨RX6, "learnSteps", "(LSphereBench$Lattice;)V"⟩
abbrev cX6_countWays : ByteArray := prog_1_method_30_code
def yX6_countWays : MethodName := ⟨RX6, "countWays", "(LSphereBench$Lattice;LSphereBench$Lattice;Z)J"⟩
abbrev cX6_shortenAll : ByteArray := prog_1_method_31_code
def yX6_shortenAll : MethodName := ⟨RX6, "shortenAll", "(LSphereBench$Grid;LSphereBench$Grid;)V"⟩
abbrev cX6_shortenFirst : ByteArray := prog_1_method_32_code
def yX6_shortenFirst : MethodName := ⟨RX6, "shortenFirst", "(LSphereBench$Grid;LSphereBench$Grid;)Z"⟩
abbrev cX6_nearestTowardsZero : ByteArray := prog_1_method_33_code
def yX6_nearestTowardsZero : MethodName := ⟨RX6, "nearestTowardsZero", "(JJ)J"⟩
abbrev cX6_sortBySizes : ByteArray := prog_1_method_34_code
def yX6_sortBySizes : MethodName := ⟨RX6, "sortBySizes", "(LSphereBench$Grid;LSphereBench$Grid;)V"⟩
abbrev cX6_power : ByteArray := prog_1_method_35_code
def yX6_power : MethodName := ⟨RX6, "power", "(JI)J"⟩
abbrev cX6_compareFractions : ByteArray := prog_1_method_36_code
def yX6_compareFractions : MethodName := ⟨RX6, "compareFractions", "(JJJJ)I"⟩
def RX7 : String := "SphereBenchModel"
def TX7 : u_T := fun k => match k with
  | 0 => ("SphereBenchModel", "ways", "[I", true)
  | 1 => ("SphereBenchModel", "table", "[J", true)
  | 2 => ("SphereBenchModel", "lattices", "I", false)
  | 3 => ("SphereBenchModel", "lines", "I", false)
  | 4 => ("SphereBenchModel", "sheet", "[J", true)
  | 5 => ("SphereBenchModel", "listRow", "[J", true)
  | 6 => ("SphereBenchModel", "listSize", "[J", true)
  | 7 => ("SphereBenchModel", "listed", "I", false)
  | 8 => ("SphereBenchModel", "listWays", "I", false)
  | 9 => ("SphereBenchModel", "way", "[J", true)
  | 10 => ("SphereBenchModel", "wayRows", "I", false)
  | 11 => ("SphereBenchModel", "foundRow", "[J", true)
  | 12 => ("SphereBenchModel", "foundSize", "[J", true)
  | 13 => ("SphereBenchModel", "found", "I", false)
  | 14 => ("SphereBenchModel", "small", "[J", true)
  | 15 => ("SphereBenchModel", "made", "[J", true)
  | 16 => ("SphereBenchModel", "now", "[J", true)
  | 17 => ("SphereBenchModel", "low", "[J", true)
  | 18 => ("SphereBenchModel", "high", "[J", true)
  | 19 => ("SphereBenchModel", "line", "[J", true)
  | 20 => ("SphereBenchModel", "base", "[J", true)
  | 21 => ("SphereBenchModel", "hasBase", "[Z", true)
  | 22 => ("SphereBenchModel", "rows", "[J", true)
  | 23 => ("SphereBenchModel", "pick", "[I", true)
  | 24 => ("SphereBenchModel", "place", "[J", true)
  | _ => ("SphereBenchModel", "off", "[J", true)
def tyX7 : Nat → FieldType := fun k => match k with
  | 0 => .array .int
  | 1 => .array .long
  | 2 => .int
  | 3 => .int
  | 4 => .array .long
  | 5 => .array .long
  | 6 => .array .long
  | 7 => .int
  | 8 => .int
  | 9 => .array .long
  | 10 => .int
  | 11 => .array .long
  | 12 => .array .long
  | 13 => .int
  | 14 => .array .long
  | 15 => .array .long
  | 16 => .array .long
  | 17 => .array .long
  | 18 => .array .long
  | 19 => .array .long
  | 20 => .array .long
  | 21 => .array .boolean
  | 22 => .array .long
  | 23 => .array .int
  | 24 => .array .long
  | _ => .array .long
theorem nmX7 : ∀ a, a < 26 → ∀ b, b < 26 → a ≠ b → (TX7 a).2.1 ≠ (TX7 b).2.1 := by decide +kernel
theorem tyX7_ok : ∀ k, k < 26 → parseFieldDescriptor (TX7 k).2.2.1 = some (tyX7 k) := by decide +kernel
abbrev cX7_init : ByteArray := prog_9_method_1_code
def yX7_init : MethodName := ⟨RX7, "<init>", "()V"⟩
abbrev cX7_isIn : ByteArray := prog_9_method_2_code
def yX7_isIn : MethodName := ⟨RX7, "isIn", "(JJJ)Z"⟩
abbrev cX7_isLattice : ByteArray := prog_9_method_3_code
def yX7_isLattice : MethodName := ⟨RX7, "isLattice", "(I)Z"⟩
abbrev cX7_minor : ByteArray := prog_9_method_4_code
def yX7_minor : MethodName := ⟨RX7, "minor", "([JIIII)J"⟩
abbrev cX7_determinant : ByteArray := prog_9_method_5_code
def yX7_determinant : MethodName := ⟨RX7, "determinant", "([JII)J"⟩
abbrev cX7_worth : ByteArray := prog_9_method_6_code
def yX7_worth : MethodName := ⟨RX7, "worth", "(I)J"⟩
abbrev cX7_co : ByteArray := prog_9_method_7_code
def yX7_co : MethodName := ⟨RX7, "co", "(III)J"⟩
abbrev cX7_sheet : ByteArray := prog_9_method_8_code
def yX7_sheet : MethodName := ⟨RX7, "sheet", "(I)Z"⟩
abbrev cX7_cell : ByteArray := prog_9_method_9_code
def yX7_cell : MethodName := ⟨RX7, "cell", "(III)Z"⟩
abbrev cX7_cellOf : ByteArray := prog_9_method_10_code
def yX7_cellOf : MethodName := ⟨RX7, "cellOf", "(II)I"⟩
abbrev cX7_take : ByteArray := prog_9_method_11_code
def yX7_take : MethodName := ⟨RX7, "take", "()I"⟩
abbrev cX7_comes : ByteArray := prog_9_method_12_code
def yX7_comes : MethodName := ⟨RX7, "comes", "(I)I"⟩
abbrev cX7_table : ByteArray := prog_9_method_13_code
def yX7_table : MethodName := ⟨RX7, "table", "(III)I"⟩
abbrev cX7_index : ByteArray := prog_9_method_14_code
def yX7_index : MethodName := ⟨RX7, "index", "()J"⟩
abbrev cX7_meeting : ByteArray := prog_9_method_15_code
def yX7_meeting : MethodName := ⟨RX7, "meeting", "(I[JI[JI)J"⟩
abbrev cX7_root : ByteArray := prog_9_method_16_code
def yX7_root : MethodName := ⟨RX7, "root", "(J)J"⟩
abbrev cX7_part : ByteArray := prog_9_method_17_code
def yX7_part : MethodName := ⟨RX7, "part", "(JJJ)J"⟩
abbrev cX7_isTooLarge : ByteArray := prog_9_method_18_code
def yX7_isTooLarge : MethodName := ⟨RX7, "isTooLarge", "(I)Z"⟩
abbrev cX7_goesOn : ByteArray := prog_9_method_19_code
def yX7_goesOn : MethodName := ⟨RX7, "goesOn", "(I)Z"⟩
abbrev cX7_isNought : ByteArray := prog_9_method_20_code
def yX7_isNought : MethodName := ⟨RX7, "isNought", "(I)Z"⟩
abbrev cX7_putIn : ByteArray := prog_9_method_21_code
def yX7_putIn : MethodName := ⟨RX7, "putIn", "(IJ)V"⟩
abbrev cX7_find : ByteArray := prog_9_method_22_code
def yX7_find : MethodName := ⟨RX7, "find", "(IJ)Z"⟩
abbrev cX7_list : ByteArray := prog_9_method_23_code
def yX7_list : MethodName := ⟨RX7, "list", "(I)V"⟩
abbrev cX7_rows : ByteArray := prog_9_method_24_code
def yX7_rows : MethodName := ⟨RX7, "rows", "(II)I"⟩
abbrev cX7_many : ByteArray := prog_9_method_25_code
def yX7_many : MethodName := ⟨RX7, "many", "(J)I"⟩
abbrev cX7_theta : ByteArray := prog_9_method_26_code
def yX7_theta : MethodName := ⟨RX7, "theta", "(II)I"⟩
abbrev cX7_row : ByteArray := prog_9_method_27_code
def yX7_row : MethodName := ⟨RX7, "row", "(II)I"⟩
abbrev cX7_size : ByteArray := prog_9_method_28_code
def yX7_size : MethodName := ⟨RX7, "size", "(I)J"⟩
abbrev cX7_findShort : ByteArray := prog_9_method_29_code
def yX7_findShort : MethodName := ⟨RX7, "findShort", "(I)Z"⟩
abbrev cX7_about : ByteArray := prog_9_method_30_code
def yX7_about : MethodName := ⟨RX7, "about", "(II)J"⟩
abbrev cX7_prime : ByteArray := prog_9_method_31_code
def yX7_prime : MethodName := ⟨RX7, "prime", "(I)J"⟩
abbrev cX7_modulo : ByteArray := prog_9_method_32_code
def yX7_modulo : MethodName := ⟨RX7, "modulo", "(JJ)J"⟩
abbrev cX7_inverse : ByteArray := prog_9_method_33_code
def yX7_inverse : MethodName := ⟨RX7, "inverse", "(JJ)J"⟩
abbrev cX7_joins : ByteArray := prog_9_method_34_code
def yX7_joins : MethodName := ⟨RX7, "joins", "(IJ)Z"⟩
abbrev cX7_rank : ByteArray := prog_9_method_35_code
def yX7_rank : MethodName := ⟨RX7, "rank", "(IJ)I"⟩
abbrev cX7_isPerfect : ByteArray := prog_9_method_36_code
def yX7_isPerfect : MethodName := ⟨RX7, "isPerfect", "(I)Z"⟩
abbrev cX7_reduce : ByteArray := prog_9_method_37_code
def yX7_reduce : MethodName := ⟨RX7, "reduce", "(I)I"⟩
abbrev cX7_keepWay : ByteArray := prog_9_method_38_code
def yX7_keepWay : MethodName := ⟨RX7, "keepWay", "(I)V"⟩
abbrev cX7_shortens : ByteArray := prog_9_method_39_code
def yX7_shortens : MethodName := ⟨RX7, "shortens", "(I)Z"⟩
abbrev cX7_change : ByteArray := prog_9_method_40_code
def yX7_change : MethodName := ⟨RX7, "change", "(III)V"⟩
abbrev cX7_order : ByteArray := prog_9_method_41_code
def yX7_order : MethodName := ⟨RX7, "order", "(I)V"⟩
abbrev cX7_search : ByteArray := prog_9_method_42_code
def yX7_search : MethodName := ⟨RX7, "search", "(IIZ)I"⟩
abbrev cX7_meets : ByteArray := prog_9_method_43_code
def yX7_meets : MethodName := ⟨RX7, "meets", "(III)Z"⟩
abbrev cX7_same : ByteArray := prog_9_method_44_code
def yX7_same : MethodName := ⟨RX7, "same", "(II)I"⟩
abbrev cX7_way : ByteArray := prog_9_method_45_code
def yX7_way : MethodName := ⟨RX7, "way", "(II)I"⟩
abbrev cX7_wayWorth : ByteArray := prog_9_method_46_code
def yX7_wayWorth : MethodName := ⟨RX7, "wayWorth", "()J"⟩
abbrev cX7_dual : ByteArray := prog_9_method_47_code
def yX7_dual : MethodName := ⟨RX7, "dual", "(I)I"⟩
abbrev cX7_sum : ByteArray := prog_9_method_48_code
def yX7_sum : MethodName := ⟨RX7, "sum", "(II)I"⟩
abbrev cX7_scale : ByteArray := prog_9_method_49_code
def yX7_scale : MethodName := ⟨RX7, "scale", "(II)I"⟩
abbrev cX7_within : ByteArray := prog_9_method_50_code
def yX7_within : MethodName := ⟨RX7, "within", "(I)I"⟩
abbrev cX7_compare : ByteArray := prog_9_method_51_code
def yX7_compare : MethodName := ⟨RX7, "compare", "(JJJJ)I"⟩
abbrev cX7_power : ByteArray := prog_9_method_52_code
def yX7_power : MethodName := ⟨RX7, "power", "(JI)J"⟩
abbrev cX7_denser : ByteArray := prog_9_method_53_code
def yX7_denser : MethodName := ⟨RX7, "denser", "(II)I"⟩
abbrev cX7_down : ByteArray := prog_9_method_54_code
def yX7_down : MethodName := ⟨RX7, "down", "(JJ)J"⟩
abbrev cX7_offSize : ByteArray := prog_9_method_55_code
def yX7_offSize : MethodName := ⟨RX7, "offSize", "(II)J"⟩
abbrev cX7_nearest : ByteArray := prog_9_method_56_code
def yX7_nearest : MethodName := ⟨RX7, "nearest", "(IIIIII)I"⟩
abbrev cX7_told : ByteArray := prog_9_method_57_code
def yX7_told : MethodName := ⟨RX7, "told", "(I)I"⟩
def RJ13 : String := "java/lang/Long"
abbrev cJ13_compare_74951 : ByteArray := prog_10_method_42_code
def yJ13_compare_74951 : MethodName := ⟨RJ13, "compare", "(JJ)I"⟩
def RJ9 : String := "java/lang/Math"
abbrev cJ9_floorDiv_f86c9 : ByteArray := prog_11_method_49_code
def yJ9_floorDiv_f86c9 : MethodName := ⟨RJ9, "floorDiv", "(JJ)J"⟩
abbrev cJ9_floorMod_f86c9 : ByteArray := prog_11_method_52_code
def yJ9_floorMod_f86c9 : MethodName := ⟨RJ9, "floorMod", "(JJ)J"⟩
abbrev cJ9_abs_067f4 : ByteArray := prog_11_method_61_code
def yJ9_abs_067f4 : MethodName := ⟨RJ9, "abs", "(J)J"⟩
abbrev cJ9_max_7cf53 : ByteArray := prog_11_method_65_code
def yJ9_max_7cf53 : MethodName := ⟨RJ9, "max", "(II)I"⟩
abbrev cJ9_max_f86c9 : ByteArray := prog_11_method_66_code
def yJ9_max_f86c9 : MethodName := ⟨RJ9, "max", "(JJ)J"⟩
abbrev cJ9_min_7cf53 : ByteArray := prog_11_method_69_code
def yJ9_min_7cf53 : MethodName := ⟨RJ9, "min", "(II)I"⟩
abbrev cJ9_min_f86c9 : ByteArray := prog_11_method_70_code
def yJ9_min_f86c9 : MethodName := ⟨RJ9, "min", "(JJ)J"⟩
def RJ10 : String := "java/lang/System"
def RL : String := "SphereBenchLaw"
abbrev cL_law : ByteArray := code
def yL_law : MethodName := ⟨RL, "law", "([I)Z"⟩
abbrev vwCl : List vw_C := [(RX0, TX0, 5), (RX1, TX1, 2), (RX2, TX2, 13), (RX3, TX3, 4), (RX4, TX4, 5), (RX5, TX5, 11), (RX6, TX6, 10), (RX7, TX7, 26)]
end
section
/-! The small machine: cells by number, values by kind, and what each instruction asks. -/
abbrev mv_M : Type := (Nat → Nat → Int32) × (Nat → Nat → Int64) × (Nat → Nat → Option Nat)
abbrev mv_c : Type := (Nat → Int32) × (Nat → Int64) × (Nat → Option Nat)
abbrev mv_S : Type := (mv_M → List Value → Prop) × (mv_M → List Value → Option Value → mv_M → Prop)
def mv_T : List Cond := lw_tbl.filter goodWord
theorem mv_T_in : ∀ w ∈ mv_T, w ∈ lw_tbl := fun _ h => (List.mem_filter.mp h).1
theorem mv_T_good : GoodIn mv_T mv_T := fun _ h => ⟨h, good_of_word (List.mem_filter.mp h).2⟩
def mv_at (h : mv_M) (i : Nat) : mv_c := (h.1 i, h.2.1 i, h.2.2 i)
def mv_si (h : mv_M) (o k : Nat) (v : Int32) : mv_M := (fun a j => if a = o ∧ j = k then v else h.1 a j, h.2.1, h.2.2)
def mv_sl (h : mv_M) (o k : Nat) (v : Int64) : mv_M := (h.1, fun a j => if a = o ∧ j = k then v else h.2.1 a j, h.2.2)
def mv_sr (h : mv_M) (o k : Nat) (v : Option Nat) : mv_M := (h.1, h.2.1, fun a j => if a = o ∧ j = k then v else h.2.2 a j)
def mv_tr (ad : Nat → Nat) (v : Value) : Value := match v with
  | .ref i => .ref (ad i)
  | .int x => .int x
  | .long x => .long x
  | .float x => .float x
  | .double x => .double x
  | .null => .null
  | .retAddr x => .retAddr x
theorem mv_tr_rf (ad : Nat → Nat) (r : Option Nat) : mv_tr ad (va_rf r) = va_rf (r.map ad) := by cases r <;> rfl
theorem mv_tr_cat (ad : Nat → Nat) (v : Value) : (mv_tr ad v).category = v.category := by cases v <;> rfl
theorem mv_tr_sum (ad : Nat → Nat) (st : List Value) : ((st.map (mv_tr ad)).map fun v => v.category).sum = (st.map fun v => v.category).sum := by
  rw [List.map_map]
  congr 1
  refine List.map_congr_left fun v _ => ?_
  exact mv_tr_cat ad v
/-- the kinds of each class's fields: 0 int, 1 long, 2 reference, 3 boolean -/
def mv_ft (ci : Nat) : List Nat := match ci with
  | 0 => [0, 0, 2, 2, 2]
  | 1 => [0, 2]
  | 2 => [0, 0, 1, 3, 3, 2, 2, 2, 2, 2, 2, 2, 2]
  | 3 => [2, 2, 2, 1]
  | 4 => [0, 0, 2, 2, 2]
  | 5 => [0, 0, 1, 1, 1, 1, 3, 2, 2, 2, 2]
  | 6 => [2, 2, 2, 2, 2, 2, 2, 0, 2, 2]
  | 7 => [2, 2, 0, 0, 2, 2, 2, 0, 0, 2, 0, 2, 2, 0, 2, 2, 2, 2, 2, 2, 2, 2, 2, 2, 2, 2]
  | _ => []
def mv_fv (t : Nat) (q : mv_c) (k : Nat) : Value := match t with
  | 0 => .int (q.1 k)
  | 1 => .long (q.2.1 k)
  | 2 => va_rf (q.2.2 k)
  | _ => .int (q.1 k)
def mv_fs (ad : Nat → Nat) (ci : Nat) (q : mv_c) : List Value := (mv_ft ci).zipIdx.map (fun z => mv_tr ad (mv_fv z.1 q z.2))
theorem mv_fs_at {ad : Nat → Nat} {ci k t : Nat} {q : mv_c} (h : (mv_ft ci)[k]? = some t) : (mv_fs ad ci q)[k]? = some (mv_tr ad (mv_fv t q k)) := by
  simp [mv_fs, List.getElem?_map, List.getElem?_zipIdx, h]
theorem mv_fs_len (ad : Nat → Nat) (ci : Nat) (q : mv_c) : (mv_fs ad ci q).length = (mv_ft ci).length := by simp [mv_fs]
def mv_cell (ad : Nat → Nat) (cA : Nat → ClassId) (kd : Nat × Nat) (q : mv_c) : va_E := match kd.1 with
  | 0 => .inr (kd.2, mv_fs ad kd.2 q)
  | 1 => .inl (cA 0, kd.2, .inl q.1)
  | 2 => .inl (cA 1, kd.2, .inr (.inl q.2.1))
  | 3 => .inl (cA 2, kd.2, .inl q.1)
  | _ => .inl (cA 3, kd.2, .inr (.inr (.inr (.inr (fun j => (q.2.2 j).map ad)))))
def mv_k (kd : List (Nat × Nat)) (i : Nat) : Nat × Nat := kd.getD i (9, 0)
theorem mv_k_lt {kd : List (Nat × Nat)} {i : Nat} (h : (mv_k kd i).1 ≠ 9) : i < kd.length := by
  rcases Nat.lt_or_ge i kd.length with q | q
  · exact q
  · exfalso
    apply h
    simp [mv_k, List.getD, List.getElem?_eq_none q]
def mv_w (b : Nat) (ad : Nat → Nat) (cA : Nat → ClassId) (kd : List (Nat × Nat)) (h : mv_M) : va_W := (List.range kd.length).map (fun i => (b + i, mv_cell ad cA (mv_k kd i) (mv_at h i)))
theorem mv_w_get {b : Nat} {ad : Nat → Nat} {cA : Nat → ClassId} {kd : List (Nat × Nat)} {h : mv_M} {i : Nat} (hi : i < kd.length) : (mv_w b ad cA kd h)[i]? = some (b + i, mv_cell ad cA (mv_k kd i) (mv_at h i)) := by
  simp [mv_w, List.getElem?_map, List.getElem?_range hi]
theorem mv_w_none {b : Nat} {ad : Nat → Nat} {cA : Nat → ClassId} {kd : List (Nat × Nat)} {h : mv_M} {i : Nat} (hi : kd.length ≤ i) : (mv_w b ad cA kd h)[i]? = none := by
  apply List.getElem?_eq_none
  simp [mv_w, hi]
theorem mv_w_D (b : Nat) (ad : Nat → Nat) (cA : Nat → ClassId) (kd : List (Nat × Nat)) (h : mv_M) : va_D (fun q => b ≤ q) (mv_w b ad cA kd h) := by
  have hh : ∀ (i : Nat) (p : Nat × va_E), (mv_w b ad cA kd h)[i]? = some p → p.1 = b + i := by
    intro i p hp
    rcases Nat.lt_or_ge i kd.length with q | q
    · rw [mv_w_get q] at hp
      cases hp
      rfl
    · rw [mv_w_none q] at hp
      cases hp
  refine ⟨fun i j p q hp hq he => ?_, fun k q hq => ?_⟩
  · have h1 := hh i p hp
    have h2 := hh j q hq
    omega
  · have h1 := hh k q hq
    show b ≤ q.1
    omega
theorem mv_w_set {b : Nat} {ad : Nat → Nat} {cA : Nat → ClassId} {kd : List (Nat × Nat)} {h h' : mv_M} {o : Nat} (ho : o < kd.length) (hs : ∀ i, i ≠ o → mv_at h' i = mv_at h i) : (mv_w b ad cA kd h).set o (b + o, mv_cell ad cA (mv_k kd o) (mv_at h' o)) = mv_w b ad cA kd h' := by
  apply List.ext_getElem?
  intro i
  by_cases hi : i = o
  · subst hi
    rw [mv_w_get ho, List.getElem?_set_self (by simp [mv_w, ho])]
  · rw [List.getElem?_set_ne (fun q => hi q.symm)]
    rcases Nat.lt_or_ge i kd.length with q | q
    · rw [mv_w_get q, mv_w_get q, hs i hi]
    · rw [mv_w_none q, mv_w_none q]
theorem mv_si_at (h : mv_M) (o k : Nat) (v : Int32) (i : Nat) (hi : i ≠ o) : mv_at (mv_si h o k v) i = mv_at h i := by simp [mv_at, mv_si, hi]
theorem mv_sl_at (h : mv_M) (o k : Nat) (v : Int64) (i : Nat) (hi : i ≠ o) : mv_at (mv_sl h o k v) i = mv_at h i := by simp [mv_at, mv_sl, hi]
theorem mv_sr_at (h : mv_M) (o k : Nat) (v : Option Nat) (i : Nat) (hi : i ≠ o) : mv_at (mv_sr h o k v) i = mv_at h i := by simp [mv_at, mv_sr, hi]
theorem mv_si_o (h : mv_M) (o k : Nat) (v : Int32) : mv_at (mv_si h o k v) o = (upd (h.1 o) k v, h.2.1 o, h.2.2 o) := by
  simp only [mv_at, mv_si, true_and]
  congr 1
theorem mv_sl_o (h : mv_M) (o k : Nat) (v : Int64) : mv_at (mv_sl h o k v) o = (h.1 o, fun j => if j = k then v else h.2.1 o j, h.2.2 o) := by
  simp [mv_at, mv_sl]
theorem mv_sr_o (h : mv_M) (o k : Nat) (v : Option Nat) : mv_at (mv_sr h o k v) o = (h.1 o, h.2.1 o, fun j => if j = k then v else h.2.2 o j) := by
  simp [mv_at, mv_sr]
theorem mv_fs_set {ad : Nat → Nat} {ci k t : Nat} {q q' : mv_c} {v : Value} (ht : (mv_ft ci)[k]? = some t) (hv : mv_fv t q' k = v) (hs : ∀ (t' j : Nat), (mv_ft ci)[j]? = some t' → j ≠ k → mv_fv t' q' j = mv_fv t' q j) : (mv_fs ad ci q).set k (mv_tr ad v) = mv_fs ad ci q' := by
  apply List.ext_getElem?
  intro j
  by_cases hj : j = k
  · subst hj
    have hl : j < (mv_fs ad ci q).length := by
      rw [mv_fs_len]
      exact (List.getElem?_eq_some_iff.mp ht).1
    rw [List.getElem?_set_self hl, mv_fs_at ht, hv]
  · rw [List.getElem?_set_ne (fun z => hj z.symm)]
    cases hz : (mv_ft ci)[j]? with
    | none =>
      have h1 : (mv_ft ci).length ≤ j := List.getElem?_eq_none_iff.mp hz
      rw [List.getElem?_eq_none (by rw [mv_fs_len]; exact h1), List.getElem?_eq_none (by rw [mv_fs_len]; exact h1)]
    | some t' => rw [mv_fs_at hz, mv_fs_at hz, hs t' j hz hj]
/-! ===== the places of a frame ===== -/
def mv_kill (o : Option Value) : Option Value := match o with
  | some (.long _) => none
  | some (.double _) => none
  | o => o
theorem mv_kill_some {o : Option Value} {w : Value} (h : mv_kill o = some w) : o = some w ∧ ¬ w.category = 2 := by
  cases o with
  | none => cases h
  | some v =>
    cases v <;> simp only [mv_kill] at h <;> cases h <;> exact ⟨rfl, by simp [Value.category]⟩
def mv_lg : List (Option Value) → Nat → Option Value
  | [], _ => none
  | a :: _, 0 => a
  | _ :: l, n + 1 => mv_lg l n
def mv_s1 : List (Option Value) → Nat → Value → List (Option Value)
  | [], _, _ => []
  | _ :: l, 0, v => some v :: l
  | a :: l, 1, v => mv_kill a :: mv_s1 l 0 v
  | a :: l, n + 2, v => a :: mv_s1 l (n + 1) v
def mv_s2 : List (Option Value) → Nat → Value → List (Option Value)
  | [], _, _ => []
  | [_], 0, v => [some v]
  | _ :: _ :: l, 0, v => some v :: none :: l
  | a :: l, 1, v => mv_kill a :: mv_s2 l 0 v
  | a :: l, n + 2, v => a :: mv_s2 l (n + 1) v
theorem mv_lg_s1 : ∀ (ls : List (Option Value)) (i : Nat) (v : Value) (k : Nat) (w : Value), mv_lg (mv_s1 ls i v) k = some w → (k = i ∧ w = v) ∨ (k ≠ i ∧ mv_lg ls k = some w ∧ ¬ (k + 1 = i ∧ w.category = 2))
  | [], _, _, _, _, h => by simp [mv_s1, mv_lg] at h
  | _ :: _, 0, v, 0, w, h => by
    simp only [mv_s1, mv_lg, Option.some.injEq] at h
    exact Or.inl ⟨rfl, h.symm⟩
  | _ :: l, 0, v, k + 1, w, h => by
    simp only [mv_s1, mv_lg] at h
    exact Or.inr ⟨by omega, by simpa only [mv_lg] using h, by omega⟩
  | a :: l, 1, v, 0, w, h => by
    simp only [mv_s1, mv_lg] at h
    obtain ⟨h1, h2⟩ := mv_kill_some h
    exact Or.inr ⟨by omega, by simpa only [mv_lg] using h1, fun q => h2 q.2⟩
  | a :: l, 1, v, k + 1, w, h => by
    simp only [mv_s1, mv_lg] at h
    rcases mv_lg_s1 l 0 v k w h with ⟨h1, h2⟩ | ⟨h1, h2, h3⟩
    · exact Or.inl ⟨by omega, h2⟩
    · exact Or.inr ⟨by omega, by simpa only [mv_lg] using h2, fun ⟨q, _⟩ => by omega⟩
  | a :: l, n + 2, v, 0, w, h => by
    simp only [mv_s1, mv_lg] at h
    exact Or.inr ⟨by omega, by simpa only [mv_lg] using h, fun ⟨q, _⟩ => by omega⟩
  | a :: l, n + 2, v, k + 1, w, h => by
    simp only [mv_s1, mv_lg] at h
    rcases mv_lg_s1 l (n + 1) v k w h with ⟨h1, h2⟩ | ⟨h1, h2, h3⟩
    · exact Or.inl ⟨by omega, h2⟩
    · exact Or.inr ⟨by omega, by simpa only [mv_lg] using h2, fun ⟨q, r⟩ => h3 ⟨by omega, r⟩⟩
theorem mv_lg_s2 : ∀ (ls : List (Option Value)) (i : Nat) (v : Value) (k : Nat) (w : Value), mv_lg (mv_s2 ls i v) k = some w → (k = i ∧ w = v) ∨ (k ≠ i ∧ k ≠ i + 1 ∧ mv_lg ls k = some w ∧ ¬ (k + 1 = i ∧ w.category = 2))
  | [], _, _, _, _, h => by simp [mv_s2, mv_lg] at h
  | [_], 0, v, 0, w, h => by
    simp only [mv_s2, mv_lg, Option.some.injEq] at h
    exact Or.inl ⟨rfl, h.symm⟩
  | [_], 0, v, k + 1, w, h => by simp [mv_s2, mv_lg] at h
  | _ :: _ :: l, 0, v, 0, w, h => by
    simp only [mv_s2, mv_lg, Option.some.injEq] at h
    exact Or.inl ⟨rfl, h.symm⟩
  | _ :: _ :: l, 0, v, 1, w, h => by simp [mv_s2, mv_lg] at h
  | _ :: _ :: l, 0, v, k + 2, w, h => by
    simp only [mv_s2, mv_lg] at h
    exact Or.inr ⟨by omega, by omega, by simpa only [mv_lg] using h, by omega⟩
  | a :: l, 1, v, 0, w, h => by
    simp only [mv_s2, mv_lg] at h
    obtain ⟨h1, h2⟩ := mv_kill_some h
    exact Or.inr ⟨by omega, by omega, by simpa only [mv_lg] using h1, fun q => h2 q.2⟩
  | a :: l, 1, v, k + 1, w, h => by
    simp only [mv_s2, mv_lg] at h
    rcases mv_lg_s2 l 0 v k w h with ⟨h1, h2⟩ | ⟨h1, h1', h2, h3⟩
    · exact Or.inl ⟨by omega, h2⟩
    · exact Or.inr ⟨by omega, by omega, by simpa only [mv_lg] using h2, fun ⟨q, _⟩ => by omega⟩
  | a :: l, n + 2, v, 0, w, h => by
    simp only [mv_s2, mv_lg] at h
    exact Or.inr ⟨by omega, by omega, by simpa only [mv_lg] using h, fun ⟨q, _⟩ => by omega⟩
  | a :: l, n + 2, v, k + 1, w, h => by
    simp only [mv_s2, mv_lg] at h
    rcases mv_lg_s2 l (n + 1) v k w h with ⟨h1, h2⟩ | ⟨h1, h1', h2, h3⟩
    · exact Or.inl ⟨by omega, h2⟩
    · exact Or.inr ⟨by omega, by omega, by simpa only [mv_lg] using h2, fun ⟨q, r⟩ => h3 ⟨by omega, r⟩⟩
def mv_L (ad : Nat → Nat) (LS : Array Slot) (nL : Nat) (ls : List (Option Value)) : Prop := LS.size = nL ∧ lv_wf LS ∧ ∀ (k : Nat) (v : Value), mv_lg ls k = some v → LS[k]? = some (.val (mv_tr ad v))
def mv_all (ad : Nat → Nat) (ls : List (Option Value)) : List (Nat × Value) := (List.range ls.length).filterMap (fun k => (mv_lg ls k).map (fun v => (k, mv_tr ad v)))
theorem mv_lg_lt : ∀ (ls : List (Option Value)) (k : Nat) (v : Value), mv_lg ls k = some v → k < ls.length
  | [], _, _, h => by simp [mv_lg] at h
  | _ :: _, 0, _, _ => by simp
  | _ :: l, k + 1, v, h => by
    have := mv_lg_lt l k v (by simpa only [mv_lg] using h)
    simp only [List.length_cons]
    omega
theorem mv_all_mem {ad : Nat → Nat} {ls : List (Option Value)} {k : Nat} {v : Value} (h : mv_lg ls k = some v) : (k, mv_tr ad v) ∈ mv_all ad ls := by
  refine List.mem_filterMap.mpr ⟨k, List.mem_range.mpr (mv_lg_lt _ _ _ h), ?_⟩
  rw [h]
  rfl
theorem mv_L.has {ad : Nat → Nat} {LS : Array Slot} {nL : Nat} {ls : List (Option Value)} (h : mv_L ad LS nL ls) : lv_has LS nL (mv_all ad ls) := by
  refine ⟨h.1, h.2.1, fun q hq => ?_⟩
  obtain ⟨k, -, hk⟩ := List.mem_filterMap.mp hq
  cases hz : mv_lg ls k with
  | none => rw [hz] at hk; cases hk
  | some v =>
    rw [hz] at hk
    cases hk
    exact h.2.2 k v hz
theorem mv_L.store1 {ad : Nat → Nat} {LS : Array Slot} {nL i : Nat} {ls : List (Option Value)} {v : Value} (h : lv_has LS nL ((i, mv_tr ad v) :: (mv_all ad ls).filter (fun q => !(q.1 == i) && !(q.1 + 1 == i && q.2.category == 2)))) : mv_L ad LS nL (mv_s1 ls i v) := by
  refine ⟨h.1, h.2.1, fun k w hk => ?_⟩
  rcases mv_lg_s1 ls i v k w hk with ⟨rfl, rfl⟩ | ⟨h1, h2, h3⟩
  · exact h.2.2 _ List.mem_cons_self
  · refine h.2.2 (k, mv_tr ad w) (List.mem_cons_of_mem _ (List.mem_filter.mpr ⟨mv_all_mem h2, ?_⟩))
    by_cases hq : k + 1 = i
    · have hc : ¬ w.category = 2 := fun z => h3 ⟨hq, z⟩
      simp [h1, mv_tr_cat, hc]
    · simp [h1, hq]
theorem mv_L.store2 {ad : Nat → Nat} {LS : Array Slot} {nL i : Nat} {ls : List (Option Value)} {v : Value} (h : lv_has LS nL ((i, mv_tr ad v) :: (mv_all ad ls).filter (fun q => !(q.1 == i) && (!(q.1 == i + 1) && !(q.1 + 1 == i && q.2.category == 2))))) : mv_L ad LS nL (mv_s2 ls i v) := by
  refine ⟨h.1, h.2.1, fun k w hk => ?_⟩
  rcases mv_lg_s2 ls i v k w hk with ⟨rfl, rfl⟩ | ⟨h1, h1', h2, h3⟩
  · exact h.2.2 _ List.mem_cons_self
  · refine h.2.2 (k, mv_tr ad w) (List.mem_cons_of_mem _ (List.mem_filter.mpr ⟨mv_all_mem h2, ?_⟩))
    by_cases hq : k + 1 = i
    · have hc : ¬ w.category = 2 := fun z => h3 ⟨hq, z⟩
      simp [h1, h1', mv_tr_cat, hc]
    · simp [h1, h1', hq]
end
section
/-! What each instruction asks of a state and where it goes on (k: at the next state). -/
def mv_i1 (st : List Value) (f : Int32 → List Value → Prop) : Prop := match st with
  | .int x :: r => f x r
  | _ => False
def mv_l1 (st : List Value) (f : Int64 → List Value → Prop) : Prop := match st with
  | .long x :: r => f x r
  | _ => False
def mv_a1 (st : List Value) (f : Nat → List Value → Prop) : Prop := match st with
  | .ref x :: r => f x r
  | _ => False
def mv_i2 (st : List Value) (f : Int32 → Int32 → List Value → Prop) : Prop := match st with
  | .int y :: .int x :: r => f x y r
  | _ => False
def mv_l2 (st : List Value) (f : Int64 → Int64 → List Value → Prop) : Prop := match st with
  | .long y :: .long x :: r => f x y r
  | _ => False
def mv_tg (pc : Nat) (off : Int) : Nat := ((pc : Int) + off).toNat
def mv_len (kd : List (Nat × Nat)) (t a : Nat) : Nat := if (mv_k kd a).1 = t then (mv_k kd a).2 else 0
def mv_ic (c : Jvm.ClassFile.Cond) (x y : Int32) : Prop := match c with
  | .eq => x = y
  | .ne => ¬ x = y
  | .lt => x < y
  | .ge => y ≤ x
  | .gt => y < x
  | .le => x ≤ y
def mv_nf (ci f : Nat) : Bool := match vwCl[ci]? with
  | some (_, T, _) => !(T f).2.2.2
  | none => false
abbrev mv_K : Type := Nat → List (Option Value) → List Value → mv_M → Prop
/-- a call: the receiver's kind ci (99: none), how many words besides, its contract -/
abbrev mv_CS : Type := Nat → Option (Nat × Nat × mv_S)
def mv_take : Nat → List Value → List Value → Option (List Value × List Value)
  | 0, acc, st => some (acc, st)
  | _ + 1, _, [] => none
  | n + 1, acc, v :: st => mv_take n (v :: acc) st
def mv_call (kd : List (Nat × Nat)) (cs : Option (Nat × Nat × mv_S)) (virt : Bool) (k : mv_K) (pc : Nat) (ls : List (Option Value)) (st : List Value) (h : mv_M) : Prop := match cs with
  | none => False
  | some (ci, n, sp) => match mv_take n [] st with
    | none => False
    | some (as, st) => match virt with
      | true => ci < 98 ∧ mv_a1 st (fun a r => mv_k kd a = (0, ci) ∧ (r.map fun v => v.category).sum ≤ 8 ∧ sp.1 h (.ref a :: as) ∧ ∀ v h', sp.2 h (.ref a :: as) v h' → k (pc + 3) ls (v.toList ++ r) h')
      | false => ci = 99 ∧ (st.map fun v => v.category).sum ≤ 8 ∧ sp.1 h as ∧ ∀ v h', sp.2 h as v h' → k (pc + 3) ls (v.toList ++ st) h'
def mv_cpm (h : mv_M) (a sp d dp n : Nat) : mv_M := (h.1, fun o j => if o = d then va_cpy (h.2.1 a) (h.2.1 d) sp dp n j else h.2.1 o j, h.2.2)
def mv_ex (kd : List (Nat × Nat)) (fl : Nat → Option (Nat × Nat × Nat)) (cI : Nat → Option Int32) (cL : Nat → Option Int64) (cs : mv_CS) (sc : Option (Nat × Nat × (Nat → Int32))) (bo : Bool) (nL : Nat) (rt : Option Value → mv_M → Prop) (k : mv_K) (pc : Nat) (ls : List (Option Value)) (st : List Value) (h : mv_M) (ins : Instr) : Prop := match ins with
  | .iconst n => k (pc + 1) ls (.int (Int32.ofInt n) :: st) h
  | .bipush n => k (pc + 2) ls (.int (Int8.ofInt n).toInt32 :: st) h
  | .sipush n => k (pc + 3) ls (.int (Int16.ofInt n).toInt32 :: st) h
  | .lconst n => k (pc + 1) ls (.long (Int64.ofNat (n : Nat)) :: st) h
  | .ldc n => ∃ v, cI n = some v ∧ k (pc + 2) ls (.int v :: st) h
  | .ldc2_w n => ∃ v, cL n = some v ∧ k (pc + 3) ls (.long v :: st) h
  | .aconst_null => k (pc + 1) ls (.null :: st) h
  | .iload_n n => match mv_lg ls n with
    | some (.int x) => k (pc + 1) ls (.int x :: st) h
    | _ => False
  | .iload n => match mv_lg ls n with
    | some (.int x) => k (pc + 2) ls (.int x :: st) h
    | _ => False
  | .lload_n n => match mv_lg ls n with
    | some (.long x) => k (pc + 1) ls (.long x :: st) h
    | _ => False
  | .lload n => match mv_lg ls n with
    | some (.long x) => k (pc + 2) ls (.long x :: st) h
    | _ => False
  | .aload_n n => match mv_lg ls n with
    | some (.ref x) => k (pc + 1) ls (.ref x :: st) h
    | some .null => k (pc + 1) ls (.null :: st) h
    | _ => False
  | .aload n => match mv_lg ls n with
    | some (.ref x) => k (pc + 2) ls (.ref x :: st) h
    | some .null => k (pc + 2) ls (.null :: st) h
    | _ => False
  | .istore_n n => (n : Nat) < nL ∧ mv_i1 st fun x r => k (pc + 1) (mv_s1 ls n (.int x)) r h
  | .istore n => n < nL ∧ mv_i1 st fun x r => k (pc + 2) (mv_s1 ls n (.int x)) r h
  | .lstore_n n => (n : Nat) + 1 < nL ∧ mv_l1 st fun x r => k (pc + 1) (mv_s2 ls n (.long x)) r h
  | .lstore n => n + 1 < nL ∧ mv_l1 st fun x r => k (pc + 2) (mv_s2 ls n (.long x)) r h
  | .astore_n n => (n : Nat) < nL ∧ match st with
    | .ref x :: r => k (pc + 1) (mv_s1 ls n (.ref x)) r h
    | .null :: r => k (pc + 1) (mv_s1 ls n .null) r h
    | _ => False
  | .astore n => n < nL ∧ match st with
    | .ref x :: r => k (pc + 2) (mv_s1 ls n (.ref x)) r h
    | .null :: r => k (pc + 2) (mv_s1 ls n .null) r h
    | _ => False
  | .iinc n d => n < nL ∧ match mv_lg ls n with
    | some (.int x) => k (pc + 3) (mv_s1 ls n (.int (x + Int32.ofInt d))) st h
    | _ => False
  | .iadd => mv_i2 st fun x y r => k (pc + 1) ls (.int (x + y) :: r) h
  | .isub => mv_i2 st fun x y r => k (pc + 1) ls (.int (x - y) :: r) h
  | .imul => mv_i2 st fun x y r => k (pc + 1) ls (.int (x * y) :: r) h
  | .iand => mv_i2 st fun x y r => k (pc + 1) ls (.int (x &&& y) :: r) h
  | .ixor => mv_i2 st fun x y r => k (pc + 1) ls (.int (x ^^^ y) :: r) h
  | .idiv => mv_i2 st fun x y r => ¬ y = 0 ∧ k (pc + 1) ls (.int (x / y) :: r) h
  | .irem => mv_i2 st fun x y r => ¬ y = 0 ∧ k (pc + 1) ls (.int (x - x / y * y) :: r) h
  | .ishl => mv_i2 st fun x y r => k (pc + 1) ls (.int (x <<< (y &&& 31)) :: r) h
  | .ineg => mv_i1 st fun x r => k (pc + 1) ls (.int (-x) :: r) h
  | .ladd => mv_l2 st fun x y r => k (pc + 1) ls (.long (x + y) :: r) h
  | .lsub => mv_l2 st fun x y r => k (pc + 1) ls (.long (x - y) :: r) h
  | .lmul => mv_l2 st fun x y r => k (pc + 1) ls (.long (x * y) :: r) h
  | .land => mv_l2 st fun x y r => k (pc + 1) ls (.long (x &&& y) :: r) h
  | .lxor => mv_l2 st fun x y r => k (pc + 1) ls (.long (x ^^^ y) :: r) h
  | .ldiv => mv_l2 st fun x y r => ¬ y = 0 ∧ k (pc + 1) ls (.long (x / y) :: r) h
  | .lrem => mv_l2 st fun x y r => ¬ y = 0 ∧ k (pc + 1) ls (.long (x - x / y * y) :: r) h
  | .lcmp => mv_l2 st fun x y r => k (pc + 1) ls (.int (lg_cmp x y) :: r) h
  | .lneg => mv_l1 st fun x r => k (pc + 1) ls (.long (-x) :: r) h
  | .lshr => match st with
    | .int y :: .long x :: r => k (pc + 1) ls (.long (x >>> (y.toInt64 &&& 63)) :: r) h
    | _ => False
  | .lshl => match st with
    | .int y :: .long x :: r => k (pc + 1) ls (.long (x <<< (y.toInt64 &&& 63)) :: r) h
    | _ => False
  | .i2l => mv_i1 st fun x r => k (pc + 1) ls (.long x.toInt64 :: r) h
  | .l2i => mv_l1 st fun x r => k (pc + 1) ls (.int x.toInt32 :: r) h
  | .dup => match st with
    | v :: r => v.category = 1 ∧ k (pc + 1) ls (v :: v :: r) h
    | _ => False
  | .dup2 => match st with
    | v :: w :: r => v.category = 1 ∧ w.category = 1 ∧ k (pc + 1) ls (v :: w :: v :: w :: r) h
    | _ => False
  | .pop => match st with
    | v :: r => v.category = 1 ∧ k (pc + 1) ls r h
    | _ => False
  | .goto off => k (mv_tg pc off) ls st h
  | .ifCond c off => mv_i1 st fun x r => (mv_ic c x 0 → k (mv_tg pc off) ls r h) ∧ (¬ mv_ic c x 0 → k (pc + 3) ls r h)
  | .if_icmp c off => mv_i2 st fun x y r => (mv_ic c x y → k (mv_tg pc off) ls r h) ∧ (¬ mv_ic c x y → k (pc + 3) ls r h)
  | .ifnull off => match st with
    | .ref _ :: r => k (pc + 3) ls r h
    | .null :: r => k (mv_tg pc off) ls r h
    | _ => False
  | .ifnonnull off => match st with
    | .ref _ :: r => k (mv_tg pc off) ls r h
    | .null :: r => k (pc + 3) ls r h
    | _ => False
  | .tableswitch dflt lo hi offs => mv_i1 st fun x r => (∀ (j : Nat) (off : Int), offs[j]? = some off → x.toInt = lo + j → x.toInt ≤ hi → k (mv_tg pc off) ls r h) ∧ (x.toInt < lo ∨ hi < x.toInt → k (mv_tg pc dflt) ls r h) ∧ hi = lo + offs.size - 1
  | .getfield n => mv_a1 st fun a r => ∃ ci f t, fl n = some (ci, f, t) ∧ mv_k kd a = (0, ci) ∧ k (pc + 3) ls (mv_fv t (mv_at h a) f :: r) h
  | .putfield n => match st with
    | .int v :: .ref a :: r => ∃ ci f t, fl n = some (ci, f, t) ∧ mv_nf ci f = true ∧ (t = 0 ∨ t = 3) ∧ (t = 3 → v = 0 ∨ v = 1) ∧ mv_k kd a = (0, ci) ∧ k (pc + 3) ls r (mv_si h a f v)
    | .long v :: .ref a :: r => ∃ ci f, fl n = some (ci, f, 1) ∧ mv_nf ci f = true ∧ mv_k kd a = (0, ci) ∧ k (pc + 3) ls r (mv_sl h a f v)
    | .ref v :: .ref a :: r => ∃ ci f, fl n = some (ci, f, 2) ∧ mv_nf ci f = true ∧ mv_k kd a = (0, ci) ∧ k (pc + 3) ls r (mv_sr h a f (some v))
    | _ => False
  | .arraylength => mv_a1 st fun a r => match sc with
    | some (z, L, _) => (a = z ∧ k (pc + 1) ls (.int (Int32.ofNat L) :: r) h) ∨ ((1 ≤ (mv_k kd a).1 ∧ (mv_k kd a).1 ≤ 4) ∧ k (pc + 1) ls (.int (Int32.ofNat (mv_k kd a).2) :: r) h)
    | none => (1 ≤ (mv_k kd a).1 ∧ (mv_k kd a).1 ≤ 4) ∧ k (pc + 1) ls (.int (Int32.ofNat (mv_k kd a).2) :: r) h
  | .iaload => match st with
    | .int i :: .ref a :: r => match sc with
      | some (z, L, xs) => (a = z ∧ vp_in i L ∧ k (pc + 1) ls (.int (xs i.toNatClampNeg) :: r) h) ∨ (vp_in i (mv_len kd 1 a) ∧ k (pc + 1) ls (.int (h.1 a i.toNatClampNeg) :: r) h)
      | none => vp_in i (mv_len kd 1 a) ∧ k (pc + 1) ls (.int (h.1 a i.toNatClampNeg) :: r) h
    | _ => False
  | .baload => match st with
    | .int i :: .ref a :: r => vp_in i (mv_len kd 3 a) ∧ k (pc + 1) ls (.int (h.1 a i.toNatClampNeg) :: r) h
    | _ => False
  | .laload => match st with
    | .int i :: .ref a :: r => vp_in i (mv_len kd 2 a) ∧ k (pc + 1) ls (.long (h.2.1 a i.toNatClampNeg) :: r) h
    | _ => False
  | .aaload => match st with
    | .int i :: .ref a :: r => vp_in i (mv_len kd 4 a) ∧ k (pc + 1) ls (va_rf (h.2.2 a i.toNatClampNeg) :: r) h
    | _ => False
  | .iastore => match st with
    | .int v :: .int i :: .ref a :: r => vp_in i (mv_len kd 1 a) ∧ k (pc + 1) ls r (mv_si h a i.toNatClampNeg v)
    | _ => False
  | .bastore => match st with
    | .int v :: .int i :: .ref a :: r => vp_in i (mv_len kd 3 a) ∧ (v = 0 ∨ v = 1) ∧ k (pc + 1) ls r (mv_si h a i.toNatClampNeg v)
    | _ => False
  | .lastore => match st with
    | .long v :: .int i :: .ref a :: r => vp_in i (mv_len kd 2 a) ∧ k (pc + 1) ls r (mv_sl h a i.toNatClampNeg v)
    | _ => False
  | .invokevirtual n => mv_call kd (cs n) true k pc ls st h
  | .invokestatic n => match cs n with
    | some (98, _, _) => match st with
      | .int c :: .int dp :: .ref d :: .int sp :: .ref a :: r => (¬ sp < 0 ∧ ¬ dp < 0 ∧ ¬ c < 0 ∧ a ≠ d) ∧ (sp.toNatClampNeg + c.toNatClampNeg ≤ mv_len kd 2 a ∧ dp.toNatClampNeg + c.toNatClampNeg ≤ mv_len kd 2 d) ∧ (mv_k kd a).1 = 2 ∧ (mv_k kd d).1 = 2 ∧ (r.map fun v => v.category).sum ≤ 8 ∧ k (pc + 3) ls r (mv_cpm h a sp.toNatClampNeg d dp.toNatClampNeg c.toNatClampNeg)
      | _ => False
    | cs => mv_call kd cs false k pc ls st h
  | .ireturn => match st with
    | [.int v] => (bo = true → v = 0 ∨ v = 1) ∧ rt (some (.int v)) h
    | _ => False
  | .lreturn => match st with
    | [.long v] => rt (some (.long v)) h
    | _ => False
  | .areturn => match st with
    | [.ref v] => rt (some (.ref v)) h
    | [.null] => rt (some .null) h
    | _ => False
  | .return_ => match st with
    | [] => rt none h
    | _ => False
  | _ => False
end
section
/-! That what an instruction asks is enough for the machine. -/
def mv_il (i : Instr) : Nat := match i with
  | .iconst _ | .lconst _ | .aconst_null | .iload_n _ | .lload_n _ | .aload_n _ | .istore_n _ | .lstore_n _ | .astore_n _ => 1
  | .bipush _ | .ldc _ | .iload _ | .lload _ | .aload _ | .istore _ | .lstore _ | .astore _ => 2
  | .sipush _ | .ldc2_w _ | .iinc _ _ | .goto _ | .ifCond _ _ | .if_icmp _ _ | .ifnull _ | .ifnonnull _ | .getfield _ | .putfield _ | .invokevirtual _ | .invokestatic _ | .invokespecial _ => 3
  | .tableswitch _ _ _ _ => 0
  | _ => 1
def mv_okb (pc : Nat) (i : Instr) : Bool := match i with
  | .goto o | .ifCond _ o | .if_icmp _ o | .ifnull o | .ifnonnull o => decide (0 ≤ (pc : Int) + o)
  | .tableswitch d _ _ offs => decide (0 ≤ (pc : Int) + d) && offs.all (fun o => decide (0 ≤ (pc : Int) + o))
  | _ => true
def mv_chk (cc : ByteArray) (q : Nat × Instr) : Bool := match decode cc q.1 with
  | .ok (i, n) => decide (i = q.2) && (decide (mv_il i = 0) || decide (n = mv_il i)) && mv_okb q.1 i
  | _ => false
theorem mv_chk_spec {cc : ByteArray} {pc : Nat} {i : Instr} (h : mv_chk cc (pc, i) = true) : ∃ n, decode cc pc = .ok (i, n) ∧ (mv_il i = 0 ∨ n = mv_il i) ∧ mv_okb pc i = true := by
  unfold mv_chk at h
  split at h
  · rename_i i' n hd
    simp only [Bool.and_eq_true, Bool.or_eq_true, decide_eq_true_eq] at h
    obtain ⟨⟨h1, h2⟩, h3⟩ := h
    subst h1
    exact ⟨n, hd, h2, h3⟩
  · cases h
theorem mv_tg_spec {pc : Nat} {o : Int} (h : 0 ≤ (pc : Int) + o) : (pc : Int) + o = (mv_tg pc o : Int) := by
  unfold mv_tg
  omega
def mv_tys (cA : Nat → ClassId) : List (ClassId × FieldType) := [(cA 0, .int), (cA 1, .long), (cA 2, .boolean), (cA 3, .object RX3)]
def mv_room (d : Nat) : Room := { frames := d + 1, cells := 0, slots := 0, locals := 100 * (d + 1) }
def mv_Pc (b : Nat) (ad : Nat → Nat) (D : va_G) (cA : Nat → ClassId) (kd : List (Nat × Nat)) (h : mv_M) (as : List Value) : Array Value → State → Prop := fun v U => v = (as.map (mv_tr ad)).toArray ∧ va_P D vwCl (mv_w b ad cA kd h) U.heap ∧ va_K D vwCl (mv_tys cA) U
def mv_Qc (b : Nat) (ad : Nat → Nat) (D : va_G) (cA : Nat → ClassId) (kd : List (Nat × Nat)) (post : Option Value → mv_M → Prop) : Array Value → State → Outcome → State → Prop := fun _ st o t => (∃ (v : Option Value) (h' : mv_M), o = .returned (v.map (mv_tr ad)) ∧ post v h' ∧ va_P D vwCl (mv_w b ad cA kd h') t.heap) ∧ va_F (fun q => b ≤ q) st t
/-- a method's contract, for worlds of kinds kd -/
def mv_Ct (l : Launch) (b : Nat) (ad : Nat → Nat) (D : va_G) (cA : Nat → ClassId) (kd : List (Nat × Nat)) (y : MethodName) (bytes : ByteArray) (maxL : Nat) (ret : Option FieldType) (d : Nat) (sp : mv_S) : Prop :=
  ∀ (h : mv_M) (as : List Value), sp.1 h as → Met l y (.code y bytes maxL ret :: mv_T) (mv_room d) (mv_Pc b ad D cA kd h as) (mv_Qc b ad D cA kd (sp.2 h as)) 0 0 (fun q => b ≤ q)
def mv_yok (y : MethodName) (n : Nat) : Prop := y.cls ≠ "java/lang/invoke/MethodHandle" ∧ y.cls ≠ "java/lang/invoke/VarHandle" ∧ (parseMethodDescriptor y.desc).map (fun d => d.parameters.length) = some n
def mv_Vok (l : Launch) (R : Room) (b : Nat) (ad : Nat → Nat) (D : va_G) (cA : Nat → ClassId) (kd : List (Nat × Nat)) (own : String) (idx ci n : Nat) (sp : mv_S) : Prop :=
  ∃ (y : MethodName) (bytes : ByteArray) (maxL : Nat) (ret : Option FieldType) (d : Nat) (T : u_T) (N : Nat), vwCl[ci]? = some (y.cls, T, N) ∧ mv_Ct l b ad D cA kd y bytes maxL ret d sp ∧
    Cond.methodLink own idx y ∈ mv_T ∧ Cond.instanceMethod y ∈ mv_T ∧ Cond.selects y.cls y y ∈ mv_T ∧ Cond.initialized y.cls ∈ mv_T ∧ Cond.code y bytes maxL ret ∈ mv_T ∧ mv_yok y n ∧ d + 2 ≤ R.frames ∧ 8 + (maxL + 11) + 100 * (d + 1) ≤ R.locals
def mv_Sok (l : Launch) (R : Room) (b : Nat) (ad : Nat → Nat) (D : va_G) (cA : Nat → ClassId) (kd : List (Nat × Nat)) (own : String) (idx n : Nat) (sp : mv_S) : Prop :=
  ∃ (y : MethodName) (bytes : ByteArray) (maxL : Nat) (ret : Option FieldType) (d : Nat), mv_Ct l b ad D cA kd y bytes maxL ret d sp ∧
    Cond.methodLink own idx y ∈ mv_T ∧ Cond.static y ∈ mv_T ∧ Cond.initialized y.cls ∈ mv_T ∧ Cond.code y bytes maxL ret ∈ mv_T ∧ mv_yok y n ∧ d + 2 ≤ R.frames ∧ 8 + (maxL + 11) + 100 * (d + 1) ≤ R.locals
def mv_Fok (own : String) (idx ci f t : Nat) : Prop :=
  ∃ (C : String) (T : u_T) (N : Nat) (ty : Nat → FieldType), vwCl[ci]? = some (C, T, N) ∧ (∀ w ∈ u_ws C T N, w ∈ mv_T) ∧ (∀ k, k < N → parseFieldDescriptor (T k).2.2.1 = some (ty k)) ∧ (∀ a, a < N → ∀ b, b < N → a ≠ b → (T a).2.1 ≠ (T b).2.1) ∧
    f < N ∧ Cond.fieldLink own idx (T f).1 (T f).2.1 (T f).2.2.1 ∈ mv_T ∧ (mv_ft ci)[f]? = some t ∧ ((t = 0 ∧ ty f = .int) ∨ (t = 1 ∧ ty f = .long) ∨ (t = 2 ∧ ((∃ n, ty f = .object n) ∨ ∃ z, ty f = .array z)) ∨ (t = 3 ∧ ty f = .boolean))
/-- what the tables say for an own part of the pool -/
def mv_Own (l : Launch) (R : Room) (b : Nat) (ad : Nat → Nat) (D : va_G) (cA : Nat → ClassId) (kd : List (Nat × Nat)) (own : String) (fl : Nat → Option (Nat × Nat × Nat)) (cI : Nat → Option Int32) (cL : Nat → Option Int64) (cs : mv_CS) : Prop :=
  (∀ idx ci f t, fl idx = some (ci, f, t) → mv_Fok own idx ci f t) ∧ (∀ idx v, cI idx = some v → Cond.constant own idx v ∈ mv_T) ∧ (∀ idx v, cL idx = some v → Cond.constantLong own idx v ∈ mv_T) ∧
  (∀ idx ci n sp, cs idx = some (ci, n, sp) → (ci < 98 → mv_Vok l R b ad D cA kd own idx ci n sp) ∧ (ci = 99 → mv_Sok l R b ad D cA kd own idx n sp) ∧ (ci = 98 → (Cond.methodLink own idx arraycopyName ∈ mv_T ∧ Cond.native arraycopyName ∈ mv_T ∧ Cond.static arraycopyName ∈ mv_T ∧ Cond.initialized "java/lang/System" ∈ mv_T) ∧ 1 ≤ R.frames ∧ 8 + (nativeFrameWords "java/lang/System" "arraycopy" 5 + 11) ≤ R.locals))
def mv_Ctx (p : Program) (s : State) (m : MethodId) (args : Array Value) (c : Code) (cc : ByteArray) (own : String) (nL b : Nat) (ad : Nat → Nat) (D : va_G) (cA : Nat → ClassId) (kd : List (Nat × Nat)) (H0 : Heap) (sc : Option (Nat × Nat × (Nat → Int32))) : Prop :=
  p.tables.exec = Jvm.exec ∧ c.code = cc ∧ c.maxLocals = nL ∧ s.vm.findClass own = some m.cls ∧ (∀ w ∈ mv_T, w.before args s = true) ∧ va_K D vwCl (mv_tys cA) s ∧ (∀ i, i < kd.length → ad i = b + i) ∧
  ∀ z L xs, sc = some (z, L, xs) → va_X (ad z) L xs s H0 ∧ ad z < H0.size ∧ ¬ b ≤ ad z
def mv_X (p : Program) (l : Launch) (e : Env) (R : Room) (s : State) (m : MethodId) (args : Array Value) (below : List Frame) (meth : Method) (c : Code) (cells slots : Nat) (Q : State → Prop) (nL b : Nat) (ad : Nat → Nat) (D : va_G) (cA : Nat → ClassId) (kd : List (Nat × Nat)) (H0 : Heap) : mv_K := fun pc ls st h =>
  ∀ (H : Heap) (locs : List Loc) (LS : Array Slot), va_P D vwCl (mv_w b ad cA kd h) H → va_S (fun q => b ≤ q) H0 H locs → mv_L ad LS nL ls → W p l e R s m args below meth c H locs cells slots Q (F0 m pc LS (st.map (mv_tr ad)))
def mv_Ret (p : Program) (l : Launch) (e : Env) (R : Room) (s : State) (m : MethodId) (args : Array Value) (below : List Frame) (meth : Method) (c : Code) (cells slots : Nat) (Q : State → Prop) (b : Nat) (ad : Nat → Nat) (D : va_G) (cA : Nat → ClassId) (kd : List (Nat × Nat)) (H0 : Heap) (cc : ByteArray) (bo : Bool) (rt : Option Value → mv_M → Prop) : Prop :=
  ∀ (pc : Nat) (LS : Array Slot) (v : Option Value) (h : mv_M) (H : Heap) (locs : List Loc), rt v h → (match v with
      | some (.int x) => (bo = true → x = 0 ∨ x = 1) ∧ decode cc pc = .ok (.ireturn, 1)
      | some (.long _) => decode cc pc = .ok (.lreturn, 1)
      | some (.ref _) => decode cc pc = .ok (.areturn, 1)
      | some .null => decode cc pc = .ok (.areturn, 1)
      | none => decode cc pc = .ok (.return_, 1)
      | _ => False) → va_P D vwCl (mv_w b ad cA kd h) H → va_S (fun q => b ≤ q) H0 H locs → W p l e R s m args below meth c H locs cells slots Q (F0 m pc LS (v.map (mv_tr ad)).toList)
theorem mv_run {p : Program} {l : Launch} {e : Env} {R : Room} {s : State} {m : MethodId} {args : Array Value} {below : List Frame} {meth : Method} {c : Code} {H H0 : Heap} {locs : List Loc} {cells slots : Nat} {Q : State → Prop} {pc b : Nat} {LS : Array Slot} {st0 rest : List Value} {ad : Nat → Nat} {D : va_G} {cA : Nat → ClassId} {kd : List (Nat × Nat)} {post : Option Value → mv_M → Prop} {a : Array Value}
    (hr : va_Run p l e R s m args below meth c H locs cells slots 0 0 (F0 m pc LS st0) rest (mv_Qc b ad D cA kd post a) (fun q => b ≤ q)) (hS : va_S (fun q => b ≤ q) H0 H locs)
    (kk : ∀ (v : Option Value) (h' : mv_M) (H1 : Heap) (locs1 : List Loc), post v h' → va_P D vwCl (mv_w b ad cA kd h') H1 → va_S (fun q => b ≤ q) H0 H1 locs1 → W p l e R s m args below meth c H1 locs1 cells slots Q (F0 m (pc + 3) LS ((v.map (mv_tr ad)).toList ++ rest))) :
    W p l e R s m args below meth c H locs cells slots Q (F0 m pc LS st0) := by
  intro T hT X
  obtain ⟨v, st₀, t, T', L, h0, X', hL, e1, e2, ⟨⟨v', h', hv, hp, hb⟩, hz, hk⟩, st⟩ := hr T hT X
  cases hv
  rw [h0] at hz hk
  obtain ⟨t2, a1, b1⟩ := kk v' h' T'.heap (locs ++ L) hp (by rw [e1]; exact hb)
    ⟨Nat.le_trans hS.1 (by rw [e1]; exact hz), fun q h1 h2 => by rw [e1, hk q (Nat.lt_of_lt_of_le h1 hS.1) h2]; exact hS.2.1 q h1 h2, fun q hq => by
      rcases List.mem_append.mp hq with h | h
      · exact hS.2.2 q h
      · exact hL q h⟩ T' rfl X'
  exact ⟨t2, st t2 a1, b1⟩
theorem mv_Pc.blind {b : Nat} {ad : Nat → Nat} {D : va_G} {cA : Nat → ClassId} {kd : List (Nat × Nat)} {h : mv_M} {as : List Value} : FrameBlind (mv_Pc b ad D cA kd h as) := fun a U g mk q => ⟨q.1, q.2.1, va_K.moved (u := U) (U := U.calling g mk a) (Vm.Alike.refl U.vm) q.2.2⟩
theorem mv_take_spec : ∀ (n : Nat) (acc st as r : List Value), mv_take n acc st = some (as, r) → ∃ x : List Value, x.length = n ∧ as = x.reverse ++ acc ∧ st = x ++ r
  | 0, acc, st, as, r, h => by
    simp only [mv_take, Option.some.injEq, Prod.mk.injEq] at h
    exact ⟨[], rfl, by simp [h.1], by simp [h.2]⟩
  | n + 1, acc, [], as, r, h => by simp [mv_take] at h
  | n + 1, acc, v :: st, as, r, h => by
    simp only [mv_take] at h
    obtain ⟨x, h1, h2, h3⟩ := mv_take_spec n (v :: acc) st as r h
    exact ⟨v :: x, by simp [h1], by simp [h2], by simp [h3]⟩
theorem mv_good_code {y : MethodName} {bytes : ByteArray} {maxL : Nat} {ret : Option FieldType} (h : Cond.code y bytes maxL ret ∈ mv_T) : GoodIn mv_T (.code y bytes maxL ret :: mv_T) := fun w hw => by
  rcases List.mem_cons.mp hw with rfl | hw
  · exact mv_T_good _ h
  · exact mv_T_good _ hw
end
section
section MVS
variable {p : Program} {l : Launch} {e : Env} {R : Room} {s : State} {m : MethodId} {args : Array Value} {below : List Frame} {meth : Method} {c : Code} {cells slots : Nat} {Q : State → Prop} {nL b : Nat} {ad : Nat → Nat} {D : va_G} {cA : Nat → ClassId} {kd : List (Nat × Nat)} {H0 : Heap} {cc : ByteArray} {own : String} {fl : Nat → Option (Nat × Nat × Nat)} {cI : Nat → Option Int32} {cL : Nat → Option Int64} {cs : mv_CS} {sc : Option (Nat × Nat × (Nat → Int32))} {bo : Bool} {rt : Option Value → mv_M → Prop} {k : mv_K} {pc : Nat} {ls : List (Option Value)} {st : List Value} {h : mv_M}
theorem mv_i1_spec {st : List Value} {f : Int32 → List Value → Prop} (h : mv_i1 st f) : ∃ x r, st = .int x :: r ∧ f x r := by
  unfold mv_i1 at h
  split at h
  · exact ⟨_, _, rfl, h⟩
  · cases h
theorem mv_l1_spec {st : List Value} {f : Int64 → List Value → Prop} (h : mv_l1 st f) : ∃ x r, st = .long x :: r ∧ f x r := by
  unfold mv_l1 at h
  split at h
  · exact ⟨_, _, rfl, h⟩
  · cases h
theorem mv_a1_spec {st : List Value} {f : Nat → List Value → Prop} (h : mv_a1 st f) : ∃ x r, st = .ref x :: r ∧ f x r := by
  unfold mv_a1 at h
  split at h
  · exact ⟨_, _, rfl, h⟩
  · cases h
theorem mv_i2_spec {st : List Value} {f : Int32 → Int32 → List Value → Prop} (h : mv_i2 st f) : ∃ x y r, st = .int y :: .int x :: r ∧ f x y r := by
  unfold mv_i2 at h
  split at h
  · exact ⟨_, _, _, rfl, h⟩
  · cases h
theorem mv_l2_spec {st : List Value} {f : Int64 → Int64 → List Value → Prop} (h : mv_l2 st f) : ∃ x y r, st = .long y :: .long x :: r ∧ f x y r := by
  unfold mv_l2 at h
  split at h
  · exact ⟨_, _, _, rfl, h⟩
  · cases h
theorem mv_obj {a ci : Nat} (had : ∀ i, i < kd.length → ad i = b + i) (hk : mv_k kd a = (0, ci)) : a < kd.length ∧ (mv_w b ad cA kd h)[a]? = some (ad a, .inr (ci, mv_fs ad ci (mv_at h a))) := by
  have hl : a < kd.length := mv_k_lt (by rw [hk]; exact (by decide : (0 : Nat) ≠ 9))
  refine ⟨hl, ?_⟩
  rw [mv_w_get hl, hk, had a hl]
  rfl
theorem mv_len_pos {t a : Nat} {i : Int32} (hi : vp_in i (mv_len kd t a)) : (mv_k kd a).1 = t ∧ mv_len kd t a = (mv_k kd a).2 := by
  unfold mv_len at hi ⊢
  split at hi
  · rename_i hh
    exact ⟨hh, by rw [if_pos hh]⟩
  · exact absurd (Or.inr (Nat.zero_le _)) hi
theorem mv_arr {a t n : Nat} (had : ∀ i, i < kd.length → ad i = b + i) (h1 : (mv_k kd a).1 = t) (h9 : t ≠ 9) (h2 : (mv_k kd a).2 = n) : a < kd.length ∧ (mv_w b ad cA kd h)[a]? = some (ad a, mv_cell ad cA (t, n) (mv_at h a)) := by
  have hl : a < kd.length := mv_k_lt (by rw [h1]; exact h9)
  refine ⟨hl, ?_⟩
  rw [mv_w_get hl, had a hl]
  have : mv_k kd a = (t, n) := Prod.ext h1 h2
  rw [this]
theorem mv_getf {idx ci f t a : Nat} {r : List Value} (C : mv_Ctx p s m args c cc own nL b ad D cA kd H0 sc) (O : mv_Own l R b ad D cA kd own fl cI cL cs) (hf : fl idx = some (ci, f, t)) (hk : mv_k kd a = (0, ci)) (hd : decode cc pc = .ok (.getfield idx, 3)) (kk : mv_X p l e R s m args below meth c cells slots Q nL b ad D cA kd H0 (pc + 3) ls (mv_fv t (mv_at h a) f :: r) h) : mv_X p l e R s m args below meth c cells slots Q nL b ad D cA kd H0 pc ls (.ref a :: r) h := by
  obtain ⟨hx, hb, hml, hown, hts, hK, had, hsc⟩ := C
  obtain ⟨Cn, T, N, ty, g1, g2, g3, g4, g5, g6, g7, g8⟩ := O.1 _ _ _ _ hf
  obtain ⟨hl, hw⟩ := mv_obj (h := h) (cA := cA) had hk
  intro H locs LS hP hS hL
  exact va_get hx hb hts g2 hown hK hP a hw g1 f g5 (hts _ g6) (fun _ z => z) (mv_fs_at g7) hd (kk H locs LS hP hS hL)
theorem mv_putf {idx ci f t a : Nat} {r : List Value} {v : Value} {h' : mv_M} (C : mv_Ctx p s m args c cc own nL b ad D cA kd H0 sc) (O : mv_Own l R b ad D cA kd own fl cI cL cs) (hf : fl idx = some (ci, f, t)) (hk : mv_k kd a = (0, ci)) (hd : decode cc pc = .ok (.putfield idx, 3)) (hfin : ∀ (C : String) (T : u_T) (N : Nat), vwCl[ci]? = some (C, T, N) → (T f).2.2.2 = false)
    (ht : (t = 0 ∧ ∃ x, v = .int x) ∨ (t = 1 ∧ ∃ x, v = .long x) ∨ (t = 2 ∧ ∃ x, v = .ref x) ∨ (t = 3 ∧ (v = .int 0 ∨ v = .int 1)))
    (hs : ∀ i, i ≠ a → mv_at h' i = mv_at h i) (hv : mv_fv t (mv_at h' a) f = v) (hs2 : ∀ (t' j : Nat), (mv_ft ci)[j]? = some t' → j ≠ f → mv_fv t' (mv_at h' a) j = mv_fv t' (mv_at h a) j)
    (kk : mv_X p l e R s m args below meth c cells slots Q nL b ad D cA kd H0 (pc + 3) ls r h') : mv_X p l e R s m args below meth c cells slots Q nL b ad D cA kd H0 pc ls (v :: .ref a :: r) h := by
  obtain ⟨hx, hb, hml, hown, hts, hK, had, hsc⟩ := C
  obtain ⟨Cn, T, N, ty, g1, g2, g3, g4, g5, g6, g7, g8⟩ := O.1 _ _ _ _ hf
  obtain ⟨hl, hw⟩ := mv_obj (h := h) (cA := cA) had hk
  intro H locs LS hP hS hL
  have hfl : f < (mv_fs ad ci (mv_at h a)).length := by rw [mv_fs_len]; exact (List.getElem?_eq_some_iff.mp g7).1
  have hn : narrow (ty f) (mv_tr ad v) = mv_tr ad v ∧ fits (ty f) (mv_tr ad v) = true := by
    rcases ht with ⟨rfl, x, rfl⟩ | ⟨rfl, x, rfl⟩ | ⟨rfl, x, rfl⟩ | ⟨rfl, rfl | rfl⟩ <;> rcases g8 with ⟨q, w⟩ | ⟨q, w⟩ | ⟨q, ⟨z, w⟩ | ⟨z, w⟩⟩ | ⟨q, w⟩ <;> first | (cases q; done) | (rw [w]; exact ⟨rfl, rfl⟩)
  refine va_put (v := mv_tr ad v) hx hb hts g2 ty g3 g4 hown hK hP (mv_w_D b ad cA kd h) hS a hw g1 f g5 (hts _ g6) (fun _ z => z) (hfin _ _ _ g1) (g3 f g5) hn.1 hn.2 hfl hd fun H1 locs1 hP1 hD1 hS1 => ?_
  refine kk H1 locs1 LS ?_ hS1 hL
  rw [← mv_w_set hl hs]
  have hq : mv_cell ad cA (mv_k kd a) (mv_at h' a) = .inr (ci, (mv_fs ad ci (mv_at h a)).set f (mv_tr ad v)) := by
    rw [hk, mv_fs_set g7 hv hs2]
    rfl
  rw [hq, ← had a hl]
  exact hP1
theorem mv_ald_i {a : Nat} {i : Int32} {r : List Value} (C : mv_Ctx p s m args c cc own nL b ad D cA kd H0 sc) (O : mv_Own l R b ad D cA kd own fl cI cL cs) (hi : vp_in i (mv_len kd 1 a)) (hd : decode cc pc = .ok (.iaload, 1)) (kk : mv_X p l e R s m args below meth c cells slots Q nL b ad D cA kd H0 (pc + 1) ls (.int (h.1 a i.toNatClampNeg) :: r) h) : mv_X p l e R s m args below meth c cells slots Q nL b ad D cA kd H0 pc ls (.int i :: .ref a :: r) h := by
  obtain ⟨hx, hb, hml, hown, hts, hK, had, hsc⟩ := C
  obtain ⟨h1, h2⟩ := mv_len_pos hi
  obtain ⟨hl, hw⟩ := mv_arr (h := h) (cA := cA) had h1 (by decide) rfl
  rw [h2] at hi
  intro H locs LS hP hS hL
  exact va_iald hx hb hK hP a 0 hw rfl hi hd (kk H locs LS hP hS hL)
theorem mv_ald_l {a : Nat} {i : Int32} {r : List Value} (C : mv_Ctx p s m args c cc own nL b ad D cA kd H0 sc) (O : mv_Own l R b ad D cA kd own fl cI cL cs) (hi : vp_in i (mv_len kd 2 a)) (hd : decode cc pc = .ok (.laload, 1)) (kk : mv_X p l e R s m args below meth c cells slots Q nL b ad D cA kd H0 (pc + 1) ls (.long (h.2.1 a i.toNatClampNeg) :: r) h) : mv_X p l e R s m args below meth c cells slots Q nL b ad D cA kd H0 pc ls (.int i :: .ref a :: r) h := by
  obtain ⟨hx, hb, hml, hown, hts, hK, had, hsc⟩ := C
  obtain ⟨h1, h2⟩ := mv_len_pos hi
  obtain ⟨hl, hw⟩ := mv_arr (h := h) (cA := cA) had h1 (by decide) rfl
  rw [h2] at hi
  intro H locs LS hP hS hL
  exact va_lald hx hb hK hP a 1 hw rfl hi hd (kk H locs LS hP hS hL)
theorem mv_ald_z {a : Nat} {i : Int32} {r : List Value} (C : mv_Ctx p s m args c cc own nL b ad D cA kd H0 sc) (O : mv_Own l R b ad D cA kd own fl cI cL cs) (hi : vp_in i (mv_len kd 3 a)) (hd : decode cc pc = .ok (.baload, 1)) (kk : mv_X p l e R s m args below meth c cells slots Q nL b ad D cA kd H0 (pc + 1) ls (.int (h.1 a i.toNatClampNeg) :: r) h) : mv_X p l e R s m args below meth c cells slots Q nL b ad D cA kd H0 pc ls (.int i :: .ref a :: r) h := by
  obtain ⟨hx, hb, hml, hown, hts, hK, had, hsc⟩ := C
  obtain ⟨h1, h2⟩ := mv_len_pos hi
  obtain ⟨hl, hw⟩ := mv_arr (h := h) (cA := cA) had h1 (by decide) rfl
  rw [h2] at hi
  intro H locs LS hP hS hL
  exact va_zald hx hb hK hP a 2 hw rfl hi hd (kk H locs LS hP hS hL)
theorem mv_ald_q {a : Nat} {i : Int32} {r : List Value} (C : mv_Ctx p s m args c cc own nL b ad D cA kd H0 sc) (O : mv_Own l R b ad D cA kd own fl cI cL cs) (hi : vp_in i (mv_len kd 4 a)) (hd : decode cc pc = .ok (.aaload, 1)) (kk : mv_X p l e R s m args below meth c cells slots Q nL b ad D cA kd H0 (pc + 1) ls (va_rf (h.2.2 a i.toNatClampNeg) :: r) h) : mv_X p l e R s m args below meth c cells slots Q nL b ad D cA kd H0 pc ls (.int i :: .ref a :: r) h := by
  obtain ⟨hx, hb, hml, hown, hts, hK, had, hsc⟩ := C
  obtain ⟨h1, h2⟩ := mv_len_pos hi
  obtain ⟨hl, hw⟩ := mv_arr (h := h) (cA := cA) had h1 (by decide) rfl
  rw [h2] at hi
  intro H locs LS hP hS hL
  exact va_aldq hx hb hK hP a 3 hw rfl hi hd (by have z := kk H locs LS hP hS hL; rw [List.map_cons, mv_tr_rf] at z; exact z)
theorem mv_ast_i {a : Nat} {i : Int32} {v : Int32} {r : List Value} (C : mv_Ctx p s m args c cc own nL b ad D cA kd H0 sc) (O : mv_Own l R b ad D cA kd own fl cI cL cs) (hi : vp_in i (mv_len kd 1 a)) (hd : decode cc pc = .ok (.iastore, 1)) (kk : mv_X p l e R s m args below meth c cells slots Q nL b ad D cA kd H0 (pc + 1) ls r (mv_si h a i.toNatClampNeg v)) : mv_X p l e R s m args below meth c cells slots Q nL b ad D cA kd H0 pc ls (.int v :: .int i :: .ref a :: r) h := by
  obtain ⟨hx, hb, hml, hown, hts, hK, had, hsc⟩ := C
  obtain ⟨h1, h2⟩ := mv_len_pos hi
  obtain ⟨hl, hw⟩ := mv_arr (h := h) (cA := cA) had h1 (by decide) rfl
  rw [h2] at hi
  intro H locs LS hP hS hL
  refine va_iast hx hb hK hP (mv_w_D b ad cA kd h) hS a 0 hw rfl hi hd fun H1 locs1 hP1 hD1 hS1 => ?_
  refine kk H1 locs1 LS ?_ hS1 hL
  rw [← mv_w_set hl (mv_si_at h a i.toNatClampNeg v), mv_si_o]
  have hkk : mv_k kd a = (1, (mv_k kd a).2) := Prod.ext h1 rfl
  rw [hkk, ← had a hl]
  exact hP1
theorem mv_ast_l {a : Nat} {i : Int32} {v : Int64} {r : List Value} (C : mv_Ctx p s m args c cc own nL b ad D cA kd H0 sc) (O : mv_Own l R b ad D cA kd own fl cI cL cs) (hi : vp_in i (mv_len kd 2 a)) (hd : decode cc pc = .ok (.lastore, 1)) (kk : mv_X p l e R s m args below meth c cells slots Q nL b ad D cA kd H0 (pc + 1) ls r (mv_sl h a i.toNatClampNeg v)) : mv_X p l e R s m args below meth c cells slots Q nL b ad D cA kd H0 pc ls (.long v :: .int i :: .ref a :: r) h := by
  obtain ⟨hx, hb, hml, hown, hts, hK, had, hsc⟩ := C
  obtain ⟨h1, h2⟩ := mv_len_pos hi
  obtain ⟨hl, hw⟩ := mv_arr (h := h) (cA := cA) had h1 (by decide) rfl
  rw [h2] at hi
  intro H locs LS hP hS hL
  refine va_last hx hb hK hP (mv_w_D b ad cA kd h) hS a 1 hw rfl hi hd fun H1 locs1 hP1 hD1 hS1 => ?_
  refine kk H1 locs1 LS ?_ hS1 hL
  rw [← mv_w_set hl (mv_sl_at h a i.toNatClampNeg v), mv_sl_o]
  have hkk : mv_k kd a = (2, (mv_k kd a).2) := Prod.ext h1 rfl
  rw [hkk, ← had a hl]
  exact hP1
theorem mv_ast_z {a : Nat} {i : Int32} {v : Int32} {r : List Value} (C : mv_Ctx p s m args c cc own nL b ad D cA kd H0 sc) (O : mv_Own l R b ad D cA kd own fl cI cL cs) (hi : vp_in i (mv_len kd 3 a)) (hv : v = 0 ∨ v = 1) (hd : decode cc pc = .ok (.bastore, 1)) (kk : mv_X p l e R s m args below meth c cells slots Q nL b ad D cA kd H0 (pc + 1) ls r (mv_si h a i.toNatClampNeg v)) : mv_X p l e R s m args below meth c cells slots Q nL b ad D cA kd H0 pc ls (.int v :: .int i :: .ref a :: r) h := by
  obtain ⟨hx, hb, hml, hown, hts, hK, had, hsc⟩ := C
  obtain ⟨h1, h2⟩ := mv_len_pos hi
  obtain ⟨hl, hw⟩ := mv_arr (h := h) (cA := cA) had h1 (by decide) rfl
  rw [h2] at hi
  intro H locs LS hP hS hL
  refine va_zast hx hb hK hP (mv_w_D b ad cA kd h) hS a 2 hw rfl hi hd fun H1 locs1 hP1 hD1 hS1 => ?_
  refine kk H1 locs1 LS ?_ hS1 hL
  rw [← mv_w_set hl (mv_si_at h a i.toNatClampNeg v), mv_si_o]
  have hkk : mv_k kd a = (3, (mv_k kd a).2) := Prod.ext h1 rfl
  rw [hkk, ← had a hl]
  have hn : vp_nar .boolean v = v := by rcases hv with rfl | rfl <;> decide
  rw [hn] at hP1
  exact hP1
theorem mv_virt {idx ci n a : Nat} {sp : mv_S} {as r : List Value} (C : mv_Ctx p s m args c cc own nL b ad D cA kd H0 sc) (O : mv_Own l R b ad D cA kd own fl cI cL cs) (hc : cs idx = some (ci, n, sp)) (hci : ci < 98) (hn : as.length = n) (hk : mv_k kd a = (0, ci)) (hr : (r.map fun v => v.category).sum ≤ 8) (hpre : sp.1 h (.ref a :: as)) (hd : decode cc pc = .ok (.invokevirtual idx, 3)) (hcell : cells ≤ R.cells ∧ slots ≤ R.slots)
    (kk : ∀ v h', sp.2 h (.ref a :: as) v h' → mv_X p l e R s m args below meth c cells slots Q nL b ad D cA kd H0 (pc + 3) ls (v.toList ++ r) h') : mv_X p l e R s m args below meth c cells slots Q nL b ad D cA kd H0 pc ls (as.reverse ++ .ref a :: r) h := by
  obtain ⟨hx, hb, hml, hown, hts, hK, had, hsc⟩ := C
  obtain ⟨y, bytes, maxL, ret, d, T, N, g1, g2, g3, g4, g5, g6, g7, g8, g9, g10⟩ := (O.2.2.2 _ _ _ _ hc).1 hci
  obtain ⟨hl, hw⟩ := mv_obj (h := h) (cA := cA) had hk
  intro H locs LS hP hS hL
  have hM := g2 h (.ref a :: as) hpre
  have cb : CallB R s args own idx y bytes maxL ret (.code y bytes maxL ret :: mv_T) (mv_room d) 0 0 n := callB_of n hts (mv_good_code g7) rfl rfl rfl (hts _ g6) (hts _ g3) g8 ⟨g9, g10⟩
  refine mv_run (va_runV (As := as.map (mv_tr ad)) (rest := r.map (mv_tr ad)) (b := ad a) ⟨hx, hb, hml, hown, hts⟩ hM ⟨cb, hts _ g4, hts _ g5⟩ ⟨mv_Pc.blind, va_recv hK hP g1 hw, fun U hU hW => ⟨rfl, by rw [hU]; exact hP, va_K.moved hW.alike hK⟩⟩ rfl (by simp [hn]) hL.1 ?_ (lv_room (by rw [mv_tr_sum]; exact hr)) hd hcell) hS ?_
  · show ((as.reverse ++ .ref a :: r).map (mv_tr ad)) = _
    simp [mv_tr]
  · intro v h' H1 locs1 hp hP1 hS1
    have z := kk v h' hp H1 locs1 LS hP1 hS1 hL
    rw [List.map_append] at z
    cases v <;> exact z
theorem mv_stat {idx n : Nat} {sp : mv_S} {as r : List Value} (C : mv_Ctx p s m args c cc own nL b ad D cA kd H0 sc) (O : mv_Own l R b ad D cA kd own fl cI cL cs) (hc : cs idx = some (99, n, sp)) (hn : as.length = n) (hr : (r.map fun v => v.category).sum ≤ 8) (hpre : sp.1 h as) (hd : decode cc pc = .ok (.invokestatic idx, 3)) (hcell : cells ≤ R.cells ∧ slots ≤ R.slots)
    (kk : ∀ v h', sp.2 h as v h' → mv_X p l e R s m args below meth c cells slots Q nL b ad D cA kd H0 (pc + 3) ls (v.toList ++ r) h') : mv_X p l e R s m args below meth c cells slots Q nL b ad D cA kd H0 pc ls (as.reverse ++ r) h := by
  obtain ⟨hx, hb, hml, hown, hts, hK, had, hsc⟩ := C
  obtain ⟨y, bytes, maxL, ret, d, g2, g3, g4, g6, g7, g8, g9, g10⟩ := (O.2.2.2 _ _ _ _ hc).2.1 rfl
  intro H locs LS hP hS hL
  have hM := g2 h as hpre
  have cb : CallB R s args own idx y bytes maxL ret (.code y bytes maxL ret :: mv_T) (mv_room d) 0 0 n := callB_of n hts (mv_good_code g7) rfl rfl rfl (hts _ g6) (hts _ g3) g8 ⟨g9, g10⟩
  refine mv_run (va_runS (As := as.map (mv_tr ad)) (rest := r.map (mv_tr ad)) ⟨hx, hb, hml, hown, hts⟩ hM ⟨cb, hts _ g4⟩ ⟨mv_Pc.blind, fun U hU hW => ⟨rfl, by rw [hU]; exact hP, va_K.moved hW.alike hK⟩⟩ rfl (by simp [hn]) hL.1 ?_ (lv_room (by rw [mv_tr_sum]; exact hr)) hd hcell) hS ?_
  · show ((as.reverse ++ r).map (mv_tr ad)) = _
    simp
  · intro v h' H1 locs1 hp hP1 hS1
    have z := kk v h' hp H1 locs1 LS hP1 hS1 hL
    rw [List.map_append] at z
    cases v <;> exact z
theorem mv_cpm_at (h : mv_M) (a sp d dp n i : Nat) (hi : i ≠ d) : mv_at (mv_cpm h a sp d dp n) i = mv_at h i := by simp [mv_at, mv_cpm, hi]
theorem mv_cpm_o (h : mv_M) (a sp d dp n : Nat) : mv_at (mv_cpm h a sp d dp n) d = (h.1 d, va_cpy (h.2.1 a) (h.2.1 d) sp dp n, h.2.2 d) := by simp [mv_at, mv_cpm]
theorem mv_copy {idx n a d : Nat} {q : mv_S} {c0 dp sp : Int32} {r : List Value} (C : mv_Ctx p s m args c cc own nL b ad D cA kd H0 sc) (O : mv_Own l R b ad D cA kd own fl cI cL cs) (hc : cs idx = some (98, n, q)) (h0 : ¬ sp < 0 ∧ ¬ dp < 0 ∧ ¬ c0 < 0 ∧ a ≠ d) (hlen : sp.toNatClampNeg + c0.toNatClampNeg ≤ mv_len kd 2 a ∧ dp.toNatClampNeg + c0.toNatClampNeg ≤ mv_len kd 2 d) (ha : (mv_k kd a).1 = 2) (hdd : (mv_k kd d).1 = 2) (hr : (r.map fun v => v.category).sum ≤ 8) (hd : decode cc pc = .ok (.invokestatic idx, 3))
    (kk : mv_X p l e R s m args below meth c cells slots Q nL b ad D cA kd H0 (pc + 3) ls r (mv_cpm h a sp.toNatClampNeg d dp.toNatClampNeg c0.toNatClampNeg)) : mv_X p l e R s m args below meth c cells slots Q nL b ad D cA kd H0 pc ls (.int c0 :: .int dp :: .ref d :: .int sp :: .ref a :: r) h := by
  obtain ⟨hx, hb, hml, hown, hts, hK, had, hsc⟩ := C
  obtain ⟨⟨g1, g2, g3, g4⟩, g5, g6⟩ := (O.2.2.2 _ _ _ _ hc).2.2 rfl
  obtain ⟨hl, hw⟩ := mv_arr (h := h) (cA := cA) had ha (by decide) rfl
  obtain ⟨hl2, hw2⟩ := mv_arr (h := h) (cA := cA) had hdd (by decide) rfl
  have e1 : mv_len kd 2 a = (mv_k kd a).2 := by unfold mv_len; rw [if_pos ha]
  have e2 : mv_len kd 2 d = (mv_k kd d).2 := by unfold mv_len; rw [if_pos hdd]
  rw [e1, e2] at hlen
  intro H locs LS hP hS hL
  refine va_copyl hx hb (hml.trans hL.1.symm) hown (hts _ g1) (hts _ g2) (hts _ g3) (hts _ g4) hK hP (mv_w_D b ad cA kd h) hS a d 1 1 hw hw2 rfl rfl rfl h0.1 h0.2.1 h0.2.2.1 hlen.1 hlen.2 (fun _ _ => rfl) g5 (by rw [mv_tr_sum]; omega) hd fun H1 locs1 hP1 hD1 hS1 => ?_
  refine kk H1 locs1 LS ?_ hS1 hL
  rw [← mv_w_set hl2 (mv_cpm_at h a sp.toNatClampNeg d dp.toNatClampNeg c0.toNatClampNeg), mv_cpm_o]
  have hkk : mv_k kd d = (2, (mv_k kd d).2) := Prod.ext hdd rfl
  rw [hkk, ← had d hl2]
  exact hP1
end MVS
end
section
section MVT
variable {p : Program} {l : Launch} {e : Env} {R : Room} {s : State} {m : MethodId} {args : Array Value} {below : List Frame} {meth : Method} {c : Code} {cells slots : Nat} {Q : State → Prop} {nL b : Nat} {ad : Nat → Nat} {D : va_G} {cA : Nat → ClassId} {kd : List (Nat × Nat)} {H0 : Heap} {cc : ByteArray} {own : String} {fl : Nat → Option (Nat × Nat × Nat)} {cI : Nat → Option Int32} {cL : Nat → Option Int64} {cs : mv_CS} {sc : Option (Nat × Nat × (Nat → Int32))} {bo : Bool} {rt : Option Value → mv_M → Prop} {k : mv_K} {pc : Nat} {ls : List (Option Value)} {st : List Value} {h : mv_M}
theorem mv_nf_spec {ci f : Nat} (h : mv_nf ci f = true) : ∀ (C : String) (T : u_T) (N : Nat), vwCl[ci]? = some (C, T, N) → (T f).2.2.2 = false := by
  intro C T N hc
  unfold mv_nf at h
  rw [hc] at h
  simpa using h
theorem mv_if {cd : Jvm.ClassFile.Cond} {off : Int} {x : Int32} {r : List Value} (C : mv_Ctx p s m args c cc own nL b ad D cA kd H0 sc) (ho : 0 ≤ (pc : Int) + off) (hd : decode cc pc = .ok (.ifCond cd off, 3)) (k1 : mv_ic cd x 0 → mv_X p l e R s m args below meth c cells slots Q nL b ad D cA kd H0 (mv_tg pc off) ls r h) (k2 : ¬ mv_ic cd x 0 → mv_X p l e R s m args below meth c cells slots Q nL b ad D cA kd H0 (pc + 3) ls r h) : mv_X p l e R s m args below meth c cells slots Q nL b ad D cA kd H0 pc ls (.int x :: r) h := by
  obtain ⟨hx, hb, hml, hown, hts, hK, had, hsc⟩ := C
  intro H locs LS hP hS hL
  have ht := mv_tg_spec ho
  cases cd with
  | eq => exact lv_if_eq hx hb hd ht (fun z => k1 z H locs LS hP hS hL) (fun z => k2 z H locs LS hP hS hL)
  | ne => exact lv_if_ne hx hb hd ht (fun z => k1 z H locs LS hP hS hL) (fun z => k2 (fun q => q z) H locs LS hP hS hL)
  | lt => exact lv_if_lt hx hb hd ht (fun z => k1 z H locs LS hP hS hL) (fun z => k2 z H locs LS hP hS hL)
  | ge => exact lv_if_ge hx hb hd ht (fun z => k1 z H locs LS hP hS hL) (fun z => k2 z H locs LS hP hS hL)
  | gt => exact lv_if_gt hx hb hd ht (fun z => k1 z H locs LS hP hS hL) (fun z => k2 z H locs LS hP hS hL)
  | le => exact lv_if_le hx hb hd ht (fun z => k1 z H locs LS hP hS hL) (fun z => k2 z H locs LS hP hS hL)
theorem mv_icmp {cd : Jvm.ClassFile.Cond} {off : Int} {x y : Int32} {r : List Value} (C : mv_Ctx p s m args c cc own nL b ad D cA kd H0 sc) (ho : 0 ≤ (pc : Int) + off) (hd : decode cc pc = .ok (.if_icmp cd off, 3)) (k1 : mv_ic cd x y → mv_X p l e R s m args below meth c cells slots Q nL b ad D cA kd H0 (mv_tg pc off) ls r h) (k2 : ¬ mv_ic cd x y → mv_X p l e R s m args below meth c cells slots Q nL b ad D cA kd H0 (pc + 3) ls r h) : mv_X p l e R s m args below meth c cells slots Q nL b ad D cA kd H0 pc ls (.int y :: .int x :: r) h := by
  obtain ⟨hx, hb, hml, hown, hts, hK, had, hsc⟩ := C
  intro H locs LS hP hS hL
  have ht := mv_tg_spec ho
  cases cd with
  | eq => exact lv_icmp_eq hx hb hd ht (fun z => k1 z H locs LS hP hS hL) (fun z => k2 z H locs LS hP hS hL)
  | ne => exact lv_icmp_ne hx hb hd ht (fun z => k1 z H locs LS hP hS hL) (fun z => k2 (fun q => q z) H locs LS hP hS hL)
  | lt => exact lv_icmp_lt hx hb hd ht (fun z => k1 z H locs LS hP hS hL) (fun z => k2 z H locs LS hP hS hL)
  | ge => exact lv_icmp_ge hx hb hd ht (fun z => k1 z H locs LS hP hS hL) (fun z => k2 z H locs LS hP hS hL)
  | gt => exact lv_icmp_gt hx hb hd ht (fun z => k1 z H locs LS hP hS hL) (fun z => k2 z H locs LS hP hS hL)
  | le => exact lv_icmp_le hx hb hd ht (fun z => k1 z H locs LS hP hS hL) (fun z => k2 z H locs LS hP hS hL)
theorem mv_switch {dflt lo hi : Int} {offs : Array Int} {n : Nat} {x : Int32} {r : List Value} (C : mv_Ctx p s m args c cc own nL b ad D cA kd H0 sc) (ho : mv_okb pc (.tableswitch dflt lo hi offs) = true) (hd : decode cc pc = .ok (.tableswitch dflt lo hi offs, n)) (k1 : ∀ (j : Nat) (off : Int), offs[j]? = some off → x.toInt = lo + j → x.toInt ≤ hi → mv_X p l e R s m args below meth c cells slots Q nL b ad D cA kd H0 (mv_tg pc off) ls r h) (k2 : x.toInt < lo ∨ hi < x.toInt → mv_X p l e R s m args below meth c cells slots Q nL b ad D cA kd H0 (mv_tg pc dflt) ls r h) (hsz : hi = lo + offs.size - 1) : mv_X p l e R s m args below meth c cells slots Q nL b ad D cA kd H0 pc ls (.int x :: r) h := by
  obtain ⟨hx, hb, hml, hown, hts, hK, had, hsc⟩ := C
  intro H locs LS hP hS hL
  simp only [mv_okb, Bool.and_eq_true, decide_eq_true_eq, Array.all_eq_true] at ho
  by_cases hz : x.toInt < lo ∨ hi < x.toInt
  · exact lv_tableOut hx hb hd hz (mv_tg_spec ho.1) (k2 hz H locs LS hP hS hL)
  · have h1 : ¬ x.toInt < lo := fun q => hz (Or.inl q)
    have h2 : ¬ hi < x.toInt := fun q => hz (Or.inr q)
    have hj : (x.toInt - lo).toNat < offs.size := by omega
    have hg : offs[(x.toInt - lo).toNat]? = some offs[(x.toInt - lo).toNat] := Array.getElem?_eq_getElem hj
    exact lv_tableIn hx hb hd h1 h2 hg (mv_tg_spec (ho.2 _ hj)) (k1 _ _ hg (by omega) (by omega) H locs LS hP hS hL)
theorem mv_calls_v {n : Nat} (C : mv_Ctx p s m args c cc own nL b ad D cA kd H0 sc) (O : mv_Own l R b ad D cA kd own fl cI cL cs) (hcell : cells ≤ R.cells ∧ slots ≤ R.slots) (hk : ∀ pc ls st h, k pc ls st h → mv_X p l e R s m args below meth c cells slots Q nL b ad D cA kd H0 pc ls st h) (ha : mv_call kd (cs n) true k pc ls st h) (hd : decode cc pc = .ok (.invokevirtual n, 3)) : mv_X p l e R s m args below meth c cells slots Q nL b ad D cA kd H0 pc ls st h := by
  unfold mv_call at ha
  split at ha
  · cases ha
  · rename_i ci q sp hcs
    split at ha
    · cases ha
    · rename_i as st2 htk
      obtain ⟨x, e1, e2, e3⟩ := mv_take_spec _ _ _ _ _ htk
      obtain ⟨hci, ha⟩ := ha
      obtain ⟨a, r, rfl, h1, h2, h3, h4⟩ := mv_a1_spec ha
      have e4 : st = as.reverse ++ .ref a :: r := by rw [e3, e2]; simp
      rw [e4]
      exact mv_virt C O hcs hci (by rw [e2]; simp [e1]) h1 h2 h3 hd hcell (fun v h' z => hk _ _ _ _ (h4 v h' z))
theorem mv_calls_s {n : Nat} (C : mv_Ctx p s m args c cc own nL b ad D cA kd H0 sc) (O : mv_Own l R b ad D cA kd own fl cI cL cs) (hcell : cells ≤ R.cells ∧ slots ≤ R.slots) (hk : ∀ pc ls st h, k pc ls st h → mv_X p l e R s m args below meth c cells slots Q nL b ad D cA kd H0 pc ls st h) (ha : mv_call kd (cs n) false k pc ls st h) (hd : decode cc pc = .ok (.invokestatic n, 3)) : mv_X p l e R s m args below meth c cells slots Q nL b ad D cA kd H0 pc ls st h := by
  unfold mv_call at ha
  split at ha
  · cases ha
  · rename_i ci q sp hcs
    split at ha
    · cases ha
    · rename_i as st2 htk
      obtain ⟨x, e1, e2, e3⟩ := mv_take_spec _ _ _ _ _ htk
      obtain ⟨rfl, h2, h3, h4⟩ := ha
      have e4 : st = as.reverse ++ st2 := by rw [e3, e2]; simp
      rw [e4]
      exact mv_stat C O hcs (by rw [e2]; simp [e1]) h2 h3 hd hcell (fun v h' z => hk _ _ _ _ (h4 v h' z))
set_option maxHeartbeats 4000000 in
theorem mv_sound {ins : Instr} (C : mv_Ctx p s m args c cc own nL b ad D cA kd H0 sc) (O : mv_Own l R b ad D cA kd own fl cI cL cs) (hcell : cells ≤ R.cells ∧ slots ≤ R.slots) (hret : mv_Ret p l e R s m args below meth c cells slots Q b ad D cA kd H0 cc bo rt)
    (hk : ∀ pc ls st h, k pc ls st h → mv_X p l e R s m args below meth c cells slots Q nL b ad D cA kd H0 pc ls st h) (hchk : mv_chk cc (pc, ins) = true) (ha : mv_ex kd fl cI cL cs sc bo nL rt k pc ls st h ins) : mv_X p l e R s m args below meth c cells slots Q nL b ad D cA kd H0 pc ls st h := by
  obtain ⟨len, hd0, hlen, ho⟩ := mv_chk_spec hchk
  have C0 := C
  obtain ⟨hx, hb, hml, hown, hts, hK, had, hsc⟩ := C0
  have hd : mv_il ins ≠ 0 → decode cc pc = .ok (ins, mv_il ins) := fun z => by
    rcases hlen with q | q
    · exact absurd q z
    · rw [← q]; exact hd0
  cases ins with
  | iconst n =>
    have hd := hd (by exact Nat.noConfusion)
    intro H locs LS hP hS hL
    exact lv_iconst hx hb hd rfl (hk _ _ _ _ ha H locs LS hP hS hL)
  | bipush n =>
    have hd := hd (by exact Nat.noConfusion)
    intro H locs LS hP hS hL
    exact lv_bipush hx hb hd rfl (hk _ _ _ _ ha H locs LS hP hS hL)
  | sipush n =>
    have hd := hd (by exact Nat.noConfusion)
    intro H locs LS hP hS hL
    exact lv_sipush hx hb hd rfl (hk _ _ _ _ ha H locs LS hP hS hL)
  | lconst n =>
    have hd := hd (by exact Nat.noConfusion)
    intro H locs LS hP hS hL
    exact lv_lconst hx hb hd rfl (hk _ _ _ _ ha H locs LS hP hS hL)
  | ldc n =>
    have hd := hd (by exact Nat.noConfusion)
    obtain ⟨v, hv, ha⟩ := ha
    intro H locs LS hP hS hL
    exact lv_ldc hx hb hown (hts _ (O.2.1 _ _ hv)) hd (hk _ _ _ _ ha H locs LS hP hS hL)
  | ldc2_w n =>
    have hd := hd (by exact Nat.noConfusion)
    obtain ⟨v, hv, ha⟩ := ha
    intro H locs LS hP hS hL
    exact lv_ldc2 hx hb hown (hts _ (O.2.2.1 _ _ hv)) hd (hk _ _ _ _ ha H locs LS hP hS hL)
  | aconst_null =>
    have hd := hd (by exact Nat.noConfusion)
    intro H locs LS hP hS hL
    exact lv_null hx hb hd (hk _ _ _ _ ha H locs LS hP hS hL)
  | iload_n n =>
    have hd := hd (by exact Nat.noConfusion)
    simp only [mv_ex] at ha
    split at ha
    · rename_i x hz
      intro H locs LS hP hS hL
      exact lv_iload_n hx hb hd rfl (hL.2.2 _ _ hz) (hk _ _ _ _ ha H locs LS hP hS hL)
    · cases ha
  | iload n =>
    have hd := hd (by exact Nat.noConfusion)
    simp only [mv_ex] at ha
    split at ha
    · rename_i x hz
      intro H locs LS hP hS hL
      exact lv_iload hx hb hd (hL.2.2 _ _ hz) (hk _ _ _ _ ha H locs LS hP hS hL)
    · cases ha
  | lload_n n =>
    have hd := hd (by exact Nat.noConfusion)
    simp only [mv_ex] at ha
    split at ha
    · rename_i x hz
      intro H locs LS hP hS hL
      exact lv_lload_n hx hb hd rfl (hL.2.2 _ _ hz) (hk _ _ _ _ ha H locs LS hP hS hL)
    · cases ha
  | lload n =>
    have hd := hd (by exact Nat.noConfusion)
    simp only [mv_ex] at ha
    split at ha
    · rename_i x hz
      intro H locs LS hP hS hL
      exact lv_lload hx hb hd (hL.2.2 _ _ hz) (hk _ _ _ _ ha H locs LS hP hS hL)
    · cases ha
  | aload_n n =>
    have hd := hd (by exact Nat.noConfusion)
    simp only [mv_ex] at ha
    split at ha
    · rename_i x hz
      intro H locs LS hP hS hL
      exact lv_aload_n hx hb hd rfl (hL.2.2 _ _ hz) (hk _ _ _ _ ha H locs LS hP hS hL)
    · rename_i hz
      intro H locs LS hP hS hL
      exact lv_aload_nN hx hb hd rfl (hL.2.2 _ _ hz) (hk _ _ _ _ ha H locs LS hP hS hL)
    · cases ha
  | aload n =>
    have hd := hd (by exact Nat.noConfusion)
    simp only [mv_ex] at ha
    split at ha
    · rename_i x hz
      intro H locs LS hP hS hL
      exact lv_aload hx hb hd (hL.2.2 _ _ hz) (hk _ _ _ _ ha H locs LS hP hS hL)
    · rename_i hz
      intro H locs LS hP hS hL
      exact lv_aloadN hx hb hd (hL.2.2 _ _ hz) (hk _ _ _ _ ha H locs LS hP hS hL)
    · cases ha
  | istore_n n =>
    have hd := hd (by exact Nat.noConfusion)
    obtain ⟨hn, ha⟩ := ha
    obtain ⟨x, r, rfl, ha⟩ := mv_i1_spec ha
    intro H locs LS hP hS hL
    exact lv_istore_n hx hb hd rfl hL.has hn rfl (fun LS' hL' => hk _ _ _ _ ha H locs LS' hP hS (mv_L.store1 (v := .int x) hL'))
  | lstore_n n =>
    have hd := hd (by exact Nat.noConfusion)
    obtain ⟨hn, ha⟩ := ha
    obtain ⟨x, r, rfl, ha⟩ := mv_l1_spec ha
    intro H locs LS hP hS hL
    exact lv_lstore_n hx hb hd rfl hL.has hn rfl (fun LS' hL' => hk _ _ _ _ ha H locs LS' hP hS (mv_L.store2 (v := .long x) hL'))
  | astore_n n =>
    have hd := hd (by exact Nat.noConfusion)
    obtain ⟨hn, ha⟩ := ha
    split at ha
    · rename_i x r
      intro H locs LS hP hS hL
      exact lv_astore_n hx hb hd rfl hL.has hn rfl (fun LS' hL' => hk _ _ _ _ ha H locs LS' hP hS (mv_L.store1 (v := .ref x) hL'))
    · rename_i r
      intro H locs LS hP hS hL
      exact lv_astore_nN hx hb hd rfl hL.has hn rfl (fun LS' hL' => hk _ _ _ _ ha H locs LS' hP hS (mv_L.store1 (v := .null) hL'))
    · cases ha
  | istore n =>
    have hd := hd (by exact Nat.noConfusion)
    obtain ⟨hn, ha⟩ := ha
    obtain ⟨x, r, rfl, ha⟩ := mv_i1_spec ha
    intro H locs LS hP hS hL
    exact lv_istore hx hb hd hL.has hn rfl (fun LS' hL' => hk _ _ _ _ ha H locs LS' hP hS (mv_L.store1 (v := .int x) hL'))
  | lstore n =>
    have hd := hd (by exact Nat.noConfusion)
    obtain ⟨hn, ha⟩ := ha
    obtain ⟨x, r, rfl, ha⟩ := mv_l1_spec ha
    intro H locs LS hP hS hL
    exact lv_lstore hx hb hd hL.has hn rfl (fun LS' hL' => hk _ _ _ _ ha H locs LS' hP hS (mv_L.store2 (v := .long x) hL'))
  | astore n =>
    have hd := hd (by exact Nat.noConfusion)
    obtain ⟨hn, ha⟩ := ha
    split at ha
    · rename_i x r
      intro H locs LS hP hS hL
      exact lv_astore hx hb hd hL.has hn rfl (fun LS' hL' => hk _ _ _ _ ha H locs LS' hP hS (mv_L.store1 (v := .ref x) hL'))
    · rename_i r
      intro H locs LS hP hS hL
      exact lv_astoreN hx hb hd hL.has hn rfl (fun LS' hL' => hk _ _ _ _ ha H locs LS' hP hS (mv_L.store1 (v := .null) hL'))
    · cases ha
  | iinc n d =>
    have hd := hd (by exact Nat.noConfusion)
    obtain ⟨hn, ha⟩ := ha
    split at ha
    · rename_i x hz
      intro H locs LS hP hS hL
      obtain ⟨j, hj⟩ := List.getElem?_of_mem (mv_all_mem (ad := ad) hz)
      exact lv_iinc hx hb hd hL.has hj rfl hn rfl (fun LS' hL' => hk _ _ _ _ ha H locs LS' hP hS (mv_L.store1 (v := .int (x + Int32.ofInt d)) hL'))
    · cases ha
  | iadd =>
    have hd := hd (by exact Nat.noConfusion)
    obtain ⟨x, y, r, rfl, ha⟩ := mv_i2_spec ha
    intro H locs LS hP hS hL
    exact lv_iadd hx hb hd (hk _ _ _ _ ha H locs LS hP hS hL)
  | isub =>
    have hd := hd (by exact Nat.noConfusion)
    obtain ⟨x, y, r, rfl, ha⟩ := mv_i2_spec ha
    intro H locs LS hP hS hL
    exact lv_isub hx hb hd (hk _ _ _ _ ha H locs LS hP hS hL)
  | imul =>
    have hd := hd (by exact Nat.noConfusion)
    obtain ⟨x, y, r, rfl, ha⟩ := mv_i2_spec ha
    intro H locs LS hP hS hL
    exact lv_imul hx hb hd (hk _ _ _ _ ha H locs LS hP hS hL)
  | iand =>
    have hd := hd (by exact Nat.noConfusion)
    obtain ⟨x, y, r, rfl, ha⟩ := mv_i2_spec ha
    intro H locs LS hP hS hL
    exact lv_iand hx hb hd (hk _ _ _ _ ha H locs LS hP hS hL)
  | ixor =>
    have hd := hd (by exact Nat.noConfusion)
    obtain ⟨x, y, r, rfl, ha⟩ := mv_i2_spec ha
    intro H locs LS hP hS hL
    exact lv_ixor hx hb hd (hk _ _ _ _ ha H locs LS hP hS hL)
  | ishl =>
    have hd := hd (by exact Nat.noConfusion)
    obtain ⟨x, y, r, rfl, ha⟩ := mv_i2_spec ha
    intro H locs LS hP hS hL
    exact lv_ishl hx hb hd (hk _ _ _ _ ha H locs LS hP hS hL)
  | idiv =>
    have hd := hd (by exact Nat.noConfusion)
    obtain ⟨x, y, r, rfl, hne, ha⟩ := mv_i2_spec ha
    intro H locs LS hP hS hL
    exact lv_idiv hx hb hd hne (hk _ _ _ _ ha H locs LS hP hS hL)
  | irem =>
    have hd := hd (by exact Nat.noConfusion)
    obtain ⟨x, y, r, rfl, hne, ha⟩ := mv_i2_spec ha
    intro H locs LS hP hS hL
    exact lv_irem hx hb hd hne (hk _ _ _ _ ha H locs LS hP hS hL)
  | ineg =>
    have hd := hd (by exact Nat.noConfusion)
    obtain ⟨x, r, rfl, ha⟩ := mv_i1_spec ha
    intro H locs LS hP hS hL
    exact lv_ineg hx hb hd (hk _ _ _ _ ha H locs LS hP hS hL)
  | ladd =>
    have hd := hd (by exact Nat.noConfusion)
    obtain ⟨x, y, r, rfl, ha⟩ := mv_l2_spec ha
    intro H locs LS hP hS hL
    exact lv_ladd hx hb hd (hk _ _ _ _ ha H locs LS hP hS hL)
  | lsub =>
    have hd := hd (by exact Nat.noConfusion)
    obtain ⟨x, y, r, rfl, ha⟩ := mv_l2_spec ha
    intro H locs LS hP hS hL
    exact lv_lsub hx hb hd (hk _ _ _ _ ha H locs LS hP hS hL)
  | lmul =>
    have hd := hd (by exact Nat.noConfusion)
    obtain ⟨x, y, r, rfl, ha⟩ := mv_l2_spec ha
    intro H locs LS hP hS hL
    exact lv_lmul hx hb hd (hk _ _ _ _ ha H locs LS hP hS hL)
  | land =>
    have hd := hd (by exact Nat.noConfusion)
    obtain ⟨x, y, r, rfl, ha⟩ := mv_l2_spec ha
    intro H locs LS hP hS hL
    exact lv_land hx hb hd (hk _ _ _ _ ha H locs LS hP hS hL)
  | lxor =>
    have hd := hd (by exact Nat.noConfusion)
    obtain ⟨x, y, r, rfl, ha⟩ := mv_l2_spec ha
    intro H locs LS hP hS hL
    exact lv_lxor hx hb hd (hk _ _ _ _ ha H locs LS hP hS hL)
  | ldiv =>
    have hd := hd (by exact Nat.noConfusion)
    obtain ⟨x, y, r, rfl, hne, ha⟩ := mv_l2_spec ha
    intro H locs LS hP hS hL
    exact lv_ldiv hx hb hd hne (hk _ _ _ _ ha H locs LS hP hS hL)
  | lrem =>
    have hd := hd (by exact Nat.noConfusion)
    obtain ⟨x, y, r, rfl, hne, ha⟩ := mv_l2_spec ha
    intro H locs LS hP hS hL
    exact lv_lrem hx hb hd hne (hk _ _ _ _ ha H locs LS hP hS hL)
  | lcmp =>
    have hd := hd (by exact Nat.noConfusion)
    obtain ⟨x, y, r, rfl, ha⟩ := mv_l2_spec ha
    intro H locs LS hP hS hL
    exact W.lcmp hx hb hd (hk _ _ _ _ ha H locs LS hP hS hL)
  | lneg =>
    have hd := hd (by exact Nat.noConfusion)
    obtain ⟨x, r, rfl, ha⟩ := mv_l1_spec ha
    intro H locs LS hP hS hL
    exact lv_lneg hx hb hd (hk _ _ _ _ ha H locs LS hP hS hL)
  | lshr =>
    have hd := hd (by exact Nat.noConfusion)
    simp only [mv_ex] at ha
    split at ha
    · intro H locs LS hP hS hL
      exact lv_lshr hx hb hd rfl (hk _ _ _ _ ha H locs LS hP hS hL)
    · cases ha
  | lshl =>
    have hd := hd (by exact Nat.noConfusion)
    simp only [mv_ex] at ha
    split at ha
    · intro H locs LS hP hS hL
      exact lv_lshl hx hb hd rfl (hk _ _ _ _ ha H locs LS hP hS hL)
    · cases ha
  | i2l =>
    have hd := hd (by exact Nat.noConfusion)
    obtain ⟨x, r, rfl, ha⟩ := mv_i1_spec ha
    intro H locs LS hP hS hL
    exact lv_i2l hx hb hd rfl (hk _ _ _ _ ha H locs LS hP hS hL)
  | l2i =>
    have hd := hd (by exact Nat.noConfusion)
    obtain ⟨x, r, rfl, ha⟩ := mv_l1_spec ha
    intro H locs LS hP hS hL
    exact lv_l2i hx hb hd rfl (hk _ _ _ _ ha H locs LS hP hS hL)
  | dup =>
    have hd := hd (by exact Nat.noConfusion)
    simp only [mv_ex] at ha
    split at ha
    · obtain ⟨hc, ha⟩ := ha
      intro H locs LS hP hS hL
      exact lv_dup hx hb hd (by rw [mv_tr_cat]; exact hc) (hk _ _ _ _ ha H locs LS hP hS hL)
    · cases ha
  | dup2 =>
    have hd := hd (by exact Nat.noConfusion)
    simp only [mv_ex] at ha
    split at ha
    · obtain ⟨hc, hc2, ha⟩ := ha
      intro H locs LS hP hS hL
      exact lv_dup2_11 hx hb hd (by rw [mv_tr_cat]; exact hc) (by rw [mv_tr_cat]; exact hc2) (hk _ _ _ _ ha H locs LS hP hS hL)
    · cases ha
  | pop =>
    have hd := hd (by exact Nat.noConfusion)
    simp only [mv_ex] at ha
    split at ha
    · obtain ⟨hc, ha⟩ := ha
      intro H locs LS hP hS hL
      exact lv_pop hx hb hd (by rw [mv_tr_cat]; exact hc) (hk _ _ _ _ ha H locs LS hP hS hL)
    · cases ha
  | goto off =>
    have hd := hd (by exact Nat.noConfusion)
    intro H locs LS hP hS hL
    exact lv_goto hx hb hd (mv_tg_spec (of_decide_eq_true ho)) (hk _ _ _ _ ha H locs LS hP hS hL)
  | ifCond cd off =>
    have hd := hd (by exact Nat.noConfusion)
    obtain ⟨x, r, rfl, h1, h2⟩ := mv_i1_spec ha
    exact mv_if C (of_decide_eq_true ho) hd (fun z => hk _ _ _ _ (h1 z)) (fun z => hk _ _ _ _ (h2 z))
  | if_icmp cd off =>
    have hd := hd (by exact Nat.noConfusion)
    obtain ⟨x, y, r, rfl, h1, h2⟩ := mv_i2_spec ha
    exact mv_icmp C (of_decide_eq_true ho) hd (fun z => hk _ _ _ _ (h1 z)) (fun z => hk _ _ _ _ (h2 z))
  | ifnull off =>
    have hd := hd (by exact Nat.noConfusion)
    simp only [mv_ex] at ha
    split at ha
    · intro H locs LS hP hS hL
      exact lv_ifnull hx hb hd (hk _ _ _ _ ha H locs LS hP hS hL)
    · intro H locs LS hP hS hL
      exact lv_ifnullN hx hb hd (mv_tg_spec (of_decide_eq_true ho)) (hk _ _ _ _ ha H locs LS hP hS hL)
    · cases ha
  | ifnonnull off =>
    have hd := hd (by exact Nat.noConfusion)
    simp only [mv_ex] at ha
    split at ha
    · intro H locs LS hP hS hL
      exact lv_ifnonnull hx hb hd (mv_tg_spec (of_decide_eq_true ho)) (hk _ _ _ _ ha H locs LS hP hS hL)
    · intro H locs LS hP hS hL
      exact lv_ifnonnullN hx hb hd (hk _ _ _ _ ha H locs LS hP hS hL)
    · cases ha
  | tableswitch dflt lo hi offs =>
    obtain ⟨x, r, rfl, h1, h2, h3⟩ := mv_i1_spec ha
    exact mv_switch C ho hd0 (fun j off q1 q2 q3 => hk _ _ _ _ (h1 j off q1 q2 q3)) (fun z => hk _ _ _ _ (h2 z)) h3
  | getfield n =>
    have hd := hd (by exact Nat.noConfusion)
    obtain ⟨a, r, rfl, ci, f, t, h1, h2, h3⟩ := mv_a1_spec ha
    exact mv_getf C O h1 h2 hd (hk _ _ _ _ h3)
  | putfield n =>
    have hd := hd (by exact Nat.noConfusion)
    simp only [mv_ex] at ha
    split at ha
    · obtain ⟨ci, f, t, h1, hnf, h2, h3, h4, h5⟩ := ha
      rename_i v a r
      refine mv_putf C O h1 h4 hd (mv_nf_spec hnf) ?_ (mv_si_at h a f v) ?_ ?_ (hk _ _ _ _ h5)
      · rcases h2 with rfl | rfl
        · exact Or.inl ⟨rfl, _, rfl⟩
        · rcases h3 rfl with rfl | rfl
          · exact Or.inr (Or.inr (Or.inr ⟨rfl, Or.inl rfl⟩))
          · exact Or.inr (Or.inr (Or.inr ⟨rfl, Or.inr rfl⟩))
      · rw [mv_si_o]
        rcases h2 with rfl | rfl <;> simp [mv_fv, upd]
      · intro t' j _ hj
        rw [mv_si_o]
        rcases t' with _ | _ | _ | t' <;> simp [mv_fv, mv_at, upd, hj]
    · obtain ⟨ci, f, h1, hnf, h4, h5⟩ := ha
      rename_i v a r
      refine mv_putf C O h1 h4 hd (mv_nf_spec hnf) (Or.inr (Or.inl ⟨rfl, _, rfl⟩)) (mv_sl_at h a f v) ?_ ?_ (hk _ _ _ _ h5)
      · rw [mv_sl_o]
        simp [mv_fv]
      · intro t' j _ hj
        rw [mv_sl_o]
        rcases t' with _ | _ | _ | t' <;> simp [mv_fv, mv_at, hj]
    · obtain ⟨ci, f, h1, hnf, h4, h5⟩ := ha
      rename_i v a r
      refine mv_putf C O h1 h4 hd (mv_nf_spec hnf) (Or.inr (Or.inr (Or.inl ⟨rfl, _, rfl⟩))) (mv_sr_at h a f (some v)) ?_ ?_ (hk _ _ _ _ h5)
      · rw [mv_sr_o]
        simp [mv_fv, va_rf]
      · intro t' j _ hj
        rw [mv_sr_o]
        rcases t' with _ | _ | _ | t' <;> simp [mv_fv, mv_at, hj]
    · cases ha
  | arraylength =>
    have hd := hd (by exact Nat.noConfusion)
    obtain ⟨a, r, rfl, ha⟩ := mv_a1_spec ha
    have main : ((1 ≤ (mv_k kd a).1 ∧ (mv_k kd a).1 ≤ 4) ∧ k (pc + 1) ls (.int (Int32.ofNat (mv_k kd a).2) :: r) h) → mv_X p l e R s m args below meth c cells slots Q nL b ad D cA kd H0 pc ls (.ref a :: r) h := by
      rintro ⟨⟨g1, g2⟩, ha⟩
      intro H locs LS hP hS hL
      generalize hkk : mv_k kd a = q at g1 g2 ha
      obtain ⟨t, n⟩ := q
      have hq : t = 1 ∨ t = 2 ∨ t = 3 ∨ t = 4 := by
        have g1 : 1 ≤ t := g1
        have g2 : t ≤ 4 := g2
        omega
      obtain ⟨hl, hw⟩ := mv_arr (h := h) (cA := cA) (t := t) (n := n) had (by rw [hkk]) (by omega) (by rw [hkk])
      rcases hq with rfl | rfl | rfl | rfl
      · exact va_alen hx hb hK hP a 0 hw rfl rfl hd (hk _ _ _ _ ha H locs LS hP hS hL)
      · exact va_alen hx hb hK hP a 1 hw rfl rfl hd (hk _ _ _ _ ha H locs LS hP hS hL)
      · exact va_alen hx hb hK hP a 2 hw rfl rfl hd (hk _ _ _ _ ha H locs LS hP hS hL)
      · exact va_alen hx hb hK hP a 3 hw rfl rfl hd (hk _ _ _ _ ha H locs LS hP hS hL)
    rcases sc with _ | ⟨z, L, xs⟩
    · exact main ha
    · rcases ha with ⟨rfl, ha2⟩ | ha2
      · intro H locs LS hP hS hL
        obtain ⟨q1, q2, q3⟩ := hsc _ _ _ rfl
        exact va_slen hx hb q1 q2 q3 hS hd (hk _ _ _ _ ha2 H locs LS hP hS hL)
      · exact main ha2
  | iaload =>
    have hd := hd (by exact Nat.noConfusion)
    simp only [mv_ex] at ha
    split at ha
    · split at ha
      · rename_i z L xs
        rcases ha with ⟨rfl, hi, ha⟩ | ⟨hi, ha⟩
        · intro H locs LS hP hS hL
          obtain ⟨q1, q2, q3⟩ := hsc _ _ _ rfl
          exact va_sld hx hb q1 q2 q3 hS hi hd (hk _ _ _ _ ha H locs LS hP hS hL)
        · exact mv_ald_i C O hi hd (hk _ _ _ _ ha)
      · exact mv_ald_i C O ha.1 hd (hk _ _ _ _ ha.2)
    · cases ha
  | laload =>
    have hd := hd (by exact Nat.noConfusion)
    simp only [mv_ex] at ha
    split at ha
    · exact mv_ald_l C O ha.1 hd (hk _ _ _ _ ha.2)
    · cases ha
  | baload =>
    have hd := hd (by exact Nat.noConfusion)
    simp only [mv_ex] at ha
    split at ha
    · exact mv_ald_z C O ha.1 hd (hk _ _ _ _ ha.2)
    · cases ha
  | aaload =>
    have hd := hd (by exact Nat.noConfusion)
    simp only [mv_ex] at ha
    split at ha
    · exact mv_ald_q C O ha.1 hd (hk _ _ _ _ ha.2)
    · cases ha
  | iastore =>
    have hd := hd (by exact Nat.noConfusion)
    simp only [mv_ex] at ha
    split at ha
    · exact mv_ast_i C O ha.1 hd (hk _ _ _ _ ha.2)
    · cases ha
  | lastore =>
    have hd := hd (by exact Nat.noConfusion)
    simp only [mv_ex] at ha
    split at ha
    · exact mv_ast_l C O ha.1 hd (hk _ _ _ _ ha.2)
    · cases ha
  | bastore =>
    have hd := hd (by exact Nat.noConfusion)
    simp only [mv_ex] at ha
    split at ha
    · exact mv_ast_z C O ha.1 ha.2.1 hd (hk _ _ _ _ ha.2.2)
    · cases ha
  | invokevirtual n =>
    have hd := hd (by exact Nat.noConfusion)
    exact mv_calls_v C O hcell hk ha hd
  | invokestatic n =>
    have hd := hd (by exact Nat.noConfusion)
    simp only [mv_ex] at ha
    split at ha
    · rename_i hcs
      split at ha
      · obtain ⟨h0, h1, h2, h3, h4, h5⟩ := ha
        exact mv_copy C O hcs h0 h1 h2 h3 h4 hd (hk _ _ _ _ h5)
      · cases ha
    · exact mv_calls_s C O hcell hk ha hd
  | ireturn =>
    have hd := hd (by exact Nat.noConfusion)
    simp only [mv_ex] at ha
    split at ha
    · intro H locs LS hP hS hL
      exact hret pc LS (some (.int _)) h H locs ha.2 ⟨ha.1, hd⟩ hP hS
    · cases ha
  | lreturn =>
    have hd := hd (by exact Nat.noConfusion)
    simp only [mv_ex] at ha
    split at ha
    · intro H locs LS hP hS hL
      exact hret pc LS (some (.long _)) h H locs ha hd hP hS
    · cases ha
  | areturn =>
    have hd := hd (by exact Nat.noConfusion)
    simp only [mv_ex] at ha
    split at ha
    · intro H locs LS hP hS hL
      exact hret pc LS (some (.ref _)) h H locs ha hd hP hS
    · intro H locs LS hP hS hL
      exact hret pc LS (some .null) h H locs ha hd hP hS
    · cases ha
  | return_ =>
    have hd := hd (by exact Nat.noConfusion)
    simp only [mv_ex] at ha
    split at ha
    · intro H locs LS hP hS hL
      exact hret pc LS none h H locs ha hd hP hS
    · cases ha
  | _ => exact ha.elim
end MVT
end
