-- ===== PART A: goes FIRST, ahead of the names: the tables' words, and 'selects' of the private methods out of them =====
/-- a private method of a class that the tables say can be made, by its rows of tables_1 -/
def lw_okq (q : MethodName × Nat) : Prop := (q.1.cls ≠ "java/lang/invoke/MethodHandle" ∧ q.1.cls ≠ "java/lang/invoke/VarHandle") ∧ Cond.instantiable q.1.cls q.2 ∈ tables_1 ∧ Cond.privateMethod q.1 ∈ tables_1 ∧ Cond.instanceMethod q.1 ∈ tables_1
theorem lw_p0 : lw_okq (⟨"SphereBench", "freeLattice", "()LSphereBench$Lattice;"⟩, 10) := ⟨⟨by decide +kernel, by decide +kernel⟩, List.mem_of_getElem? (i := 13) (by decide +kernel), List.mem_of_getElem? (i := 270) (by decide +kernel), List.mem_of_getElem? (i := 271) (by decide +kernel)⟩
theorem lw_p1 : lw_okq (⟨"SphereBench$Grid", "expand", "(IIII)J"⟩, 2) := ⟨⟨by decide +kernel, by decide +kernel⟩, List.mem_of_getElem? (i := 21) (by decide +kernel), List.mem_of_getElem? (i := 283) (by decide +kernel), List.mem_of_getElem? (i := 284) (by decide +kernel)⟩
theorem lw_p2 : lw_okq (⟨"SphereBench", "keepIfSmall", "(LSphereBench$Lattice;)I"⟩, 10) := ⟨⟨by decide +kernel, by decide +kernel⟩, List.mem_of_getElem? (i := 13) (by decide +kernel), List.mem_of_getElem? (i := 294) (by decide +kernel), List.mem_of_getElem? (i := 295) (by decide +kernel)⟩
theorem lw_p3 : lw_okq (⟨"SphereBench", "latticeAt", "(I)LSphereBench$Lattice;"⟩, 10) := ⟨⟨by decide +kernel, by decide +kernel⟩, List.mem_of_getElem? (i := 13) (by decide +kernel), List.mem_of_getElem? (i := 336) (by decide +kernel), List.mem_of_getElem? (i := 337) (by decide +kernel)⟩
theorem lw_p4 : lw_okq (⟨"SphereBench", "factOf", "(LSphereBench$Lattice;I)J"⟩, 10) := ⟨⟨by decide +kernel, by decide +kernel⟩, List.mem_of_getElem? (i := 13) (by decide +kernel), List.mem_of_getElem? (i := 345) (by decide +kernel), List.mem_of_getElem? (i := 346) (by decide +kernel)⟩
theorem lw_p5 : lw_okq (⟨"SphereBench", "countWays", "(LSphereBench$Lattice;LSphereBench$Lattice;Z)J"⟩, 10) := ⟨⟨by decide +kernel, by decide +kernel⟩, List.mem_of_getElem? (i := 13) (by decide +kernel), List.mem_of_getElem? (i := 350) (by decide +kernel), List.mem_of_getElem? (i := 351) (by decide +kernel)⟩
theorem lw_p6 : lw_okq (⟨"SphereBench$Sweep", "begin", "(LSphereBench$Lattice;IJLSphereBench$Book;)Z"⟩, 11) := ⟨⟨by decide +kernel, by decide +kernel⟩, List.mem_of_getElem? (i := 37) (by decide +kernel), List.mem_of_getElem? (i := 369) (by decide +kernel), List.mem_of_getElem? (i := 370) (by decide +kernel)⟩
theorem lw_p7 : lw_okq (⟨"SphereBench$Sweep", "setNumber", "(IJ)V"⟩, 11) := ⟨⟨by decide +kernel, by decide +kernel⟩, List.mem_of_getElem? (i := 37) (by decide +kernel), List.mem_of_getElem? (i := 417) (by decide +kernel), List.mem_of_getElem? (i := 418) (by decide +kernel)⟩
theorem lw_p8 : lw_okq (⟨"SphereBench$Sweep", "prepare", "()V"⟩, 11) := ⟨⟨by decide +kernel, by decide +kernel⟩, List.mem_of_getElem? (i := 37) (by decide +kernel), List.mem_of_getElem? (i := 425) (by decide +kernel), List.mem_of_getElem? (i := 426) (by decide +kernel)⟩
theorem lw_p9 : lw_okq (⟨"SphereBench$Sweep", "noteUpTo", "(JLSphereBench$Book;)Z"⟩, 11) := ⟨⟨by decide +kernel, by decide +kernel⟩, List.mem_of_getElem? (i := 37) (by decide +kernel), List.mem_of_getElem? (i := 434) (by decide +kernel), List.mem_of_getElem? (i := 435) (by decide +kernel)⟩
theorem lw_p10 : lw_okq (⟨"SphereBench$Sweep", "sizeFor", "(J)J"⟩, 11) := ⟨⟨by decide +kernel, by decide +kernel⟩, List.mem_of_getElem? (i := 37) (by decide +kernel), List.mem_of_getElem? (i := 438) (by decide +kernel), List.mem_of_getElem? (i := 439) (by decide +kernel)⟩
theorem lw_p11 : lw_okq (⟨"SphereBench$Sweep", "advance", "(LSphereBench$Book;)V"⟩, 11) := ⟨⟨by decide +kernel, by decide +kernel⟩, List.mem_of_getElem? (i := 37) (by decide +kernel), List.mem_of_getElem? (i := 446) (by decide +kernel), List.mem_of_getElem? (i := 447) (by decide +kernel)⟩
theorem lw_p12 : lw_okq (⟨"SphereBench$Book", "sink", "(II)V"⟩, 5) := ⟨⟨by decide +kernel, by decide +kernel⟩, List.mem_of_getElem? (i := 150) (by decide +kernel), List.mem_of_getElem? (i := 455) (by decide +kernel), List.mem_of_getElem? (i := 456) (by decide +kernel)⟩
theorem lw_p13 : lw_okq (⟨"SphereBench$Hunt", "choose", "(I)Z"⟩, 13) := ⟨⟨by decide +kernel, by decide +kernel⟩, List.mem_of_getElem? (i := 79) (by decide +kernel), List.mem_of_getElem? (i := 489) (by decide +kernel), List.mem_of_getElem? (i := 490) (by decide +kernel)⟩
theorem lw_p14 : lw_okq (⟨"SphereBench$Hunt", "meetsAsWanted", "(II)Z"⟩, 13) := ⟨⟨by decide +kernel, by decide +kernel⟩, List.mem_of_getElem? (i := 79) (by decide +kernel), List.mem_of_getElem? (i := 494) (by decide +kernel), List.mem_of_getElem? (i := 495) (by decide +kernel)⟩
theorem lw_p15 : lw_okq (⟨"SphereBench$Hunt", "hold", "(II)V"⟩, 13) := ⟨⟨by decide +kernel, by decide +kernel⟩, List.mem_of_getElem? (i := 79) (by decide +kernel), List.mem_of_getElem? (i := 498) (by decide +kernel), List.mem_of_getElem? (i := 499) (by decide +kernel)⟩
def lw_privs_1 : List (MethodName × Nat) := [(⟨"SphereBench", "freeLattice", "()LSphereBench$Lattice;"⟩, 10), (⟨"SphereBench$Grid", "expand", "(IIII)J"⟩, 2), (⟨"SphereBench", "keepIfSmall", "(LSphereBench$Lattice;)I"⟩, 10), (⟨"SphereBench", "latticeAt", "(I)LSphereBench$Lattice;"⟩, 10), (⟨"SphereBench", "factOf", "(LSphereBench$Lattice;I)J"⟩, 10), (⟨"SphereBench", "countWays", "(LSphereBench$Lattice;LSphereBench$Lattice;Z)J"⟩, 10), (⟨"SphereBench$Sweep", "begin", "(LSphereBench$Lattice;IJLSphereBench$Book;)Z"⟩, 11), (⟨"SphereBench$Sweep", "setNumber", "(IJ)V"⟩, 11), (⟨"SphereBench$Sweep", "prepare", "()V"⟩, 11), (⟨"SphereBench$Sweep", "noteUpTo", "(JLSphereBench$Book;)Z"⟩, 11), (⟨"SphereBench$Sweep", "sizeFor", "(J)J"⟩, 11), (⟨"SphereBench$Sweep", "advance", "(LSphereBench$Book;)V"⟩, 11), (⟨"SphereBench$Book", "sink", "(II)V"⟩, 5), (⟨"SphereBench$Hunt", "choose", "(I)Z"⟩, 13), (⟨"SphereBench$Hunt", "meetsAsWanted", "(II)Z"⟩, 13), (⟨"SphereBench$Hunt", "hold", "(II)V"⟩, 13)]
theorem lw_r1 : ∀ q ∈ lw_privs_1, lw_okq q := List.forall_mem_cons.mpr ⟨lw_p0, List.forall_mem_cons.mpr ⟨lw_p1, List.forall_mem_cons.mpr ⟨lw_p2, List.forall_mem_cons.mpr ⟨lw_p3, List.forall_mem_cons.mpr ⟨lw_p4, List.forall_mem_cons.mpr ⟨lw_p5, List.forall_mem_cons.mpr ⟨lw_p6, List.forall_mem_cons.mpr ⟨lw_p7, List.forall_mem_cons.mpr ⟨lw_p8, List.forall_mem_cons.mpr ⟨lw_p9, List.forall_mem_cons.mpr ⟨lw_p10, List.forall_mem_cons.mpr ⟨lw_p11, List.forall_mem_cons.mpr ⟨lw_p12, List.forall_mem_cons.mpr ⟨lw_p13, List.forall_mem_cons.mpr ⟨lw_p14, List.forall_mem_cons.mpr ⟨lw_p15, fun _ h => absurd h List.not_mem_nil⟩⟩⟩⟩⟩⟩⟩⟩⟩⟩⟩⟩⟩⟩⟩⟩
theorem lw_p16 : lw_okq (⟨"SphereBench$Hunt", "numberOf", "(II)I"⟩, 13) := ⟨⟨by decide +kernel, by decide +kernel⟩, List.mem_of_getElem? (i := 79) (by decide +kernel), List.mem_of_getElem? (i := 502) (by decide +kernel), List.mem_of_getElem? (i := 503) (by decide +kernel)⟩
theorem lw_p17 : lw_okq (⟨"SphereBench", "learnSteps", "(LSphereBench$Lattice;)V"⟩, 10) := ⟨⟨by decide +kernel, by decide +kernel⟩, List.mem_of_getElem? (i := 13) (by decide +kernel), List.mem_of_getElem? (i := 508) (by decide +kernel), List.mem_of_getElem? (i := 509) (by decide +kernel)⟩
theorem lw_p18 : lw_okq (⟨"SphereBench$Rank", "setFresh", "(LSphereBench$Book;II)V"⟩, 5) := ⟨⟨by decide +kernel, by decide +kernel⟩, List.mem_of_getElem? (i := 128) (by decide +kernel), List.mem_of_getElem? (i := 530) (by decide +kernel), List.mem_of_getElem? (i := 531) (by decide +kernel)⟩
theorem lw_p19 : lw_okq (⟨"SphereBench$Rank", "keepFreshIfNew", "()V"⟩, 5) := ⟨⟨by decide +kernel, by decide +kernel⟩, List.mem_of_getElem? (i := 128) (by decide +kernel), List.mem_of_getElem? (i := 539) (by decide +kernel), List.mem_of_getElem? (i := 540) (by decide +kernel)⟩
theorem lw_p20 : lw_okq (⟨"SphereBench$Rank", "strikeOut", "(II)V"⟩, 5) := ⟨⟨by decide +kernel, by decide +kernel⟩, List.mem_of_getElem? (i := 128) (by decide +kernel), List.mem_of_getElem? (i := 543) (by decide +kernel), List.mem_of_getElem? (i := 544) (by decide +kernel)⟩
theorem lw_p21 : lw_okq (⟨"SphereBench", "showSpare", "(I)I"⟩, 10) := ⟨⟨by decide +kernel, by decide +kernel⟩, List.mem_of_getElem? (i := 13) (by decide +kernel), List.mem_of_getElem? (i := 553) (by decide +kernel), List.mem_of_getElem? (i := 554) (by decide +kernel)⟩
theorem lw_p22 : lw_okq (⟨"SphereBench$Grid", "meeting", "(LSphereBench$Grid;II)J"⟩, 2) := ⟨⟨by decide +kernel, by decide +kernel⟩, List.mem_of_getElem? (i := 21) (by decide +kernel), List.mem_of_getElem? (i := 658) (by decide +kernel), List.mem_of_getElem? (i := 659) (by decide +kernel)⟩
theorem lw_p23 : lw_okq (⟨"SphereBench$Sweep", "sizeOfRounding", "(LSphereBench$Lattice;J)J"⟩, 11) := ⟨⟨by decide +kernel, by decide +kernel⟩, List.mem_of_getElem? (i := 37) (by decide +kernel), List.mem_of_getElem? (i := 694) (by decide +kernel), List.mem_of_getElem? (i := 695) (by decide +kernel)⟩
theorem lw_p24 : lw_okq (⟨"SphereBench$Sweep", "offer", "(JLSphereBench$Book;)V"⟩, 11) := ⟨⟨by decide +kernel, by decide +kernel⟩, List.mem_of_getElem? (i := 37) (by decide +kernel), List.mem_of_getElem? (i := 698) (by decide +kernel), List.mem_of_getElem? (i := 699) (by decide +kernel)⟩
theorem lw_p25 : lw_okq (⟨"SphereBenchModel", "determinant", "([JII)J"⟩, 26) := ⟨⟨by decide +kernel, by decide +kernel⟩, List.mem_of_getElem? (i := 711) (by decide +kernel), List.mem_of_getElem? (i := 820) (by decide +kernel), List.mem_of_getElem? (i := 821) (by decide +kernel)⟩
theorem lw_p26 : lw_okq (⟨"SphereBenchModel", "minor", "([JIIII)J"⟩, 26) := ⟨⟨by decide +kernel, by decide +kernel⟩, List.mem_of_getElem? (i := 711) (by decide +kernel), List.mem_of_getElem? (i := 825) (by decide +kernel), List.mem_of_getElem? (i := 826) (by decide +kernel)⟩
theorem lw_p27 : lw_okq (⟨"SphereBenchModel", "comes", "(I)I"⟩, 26) := ⟨⟨by decide +kernel, by decide +kernel⟩, List.mem_of_getElem? (i := 711) (by decide +kernel), List.mem_of_getElem? (i := 829) (by decide +kernel), List.mem_of_getElem? (i := 830) (by decide +kernel)⟩
theorem lw_p28 : lw_okq (⟨"SphereBenchModel", "isLattice", "(I)Z"⟩, 26) := ⟨⟨by decide +kernel, by decide +kernel⟩, List.mem_of_getElem? (i := 711) (by decide +kernel), List.mem_of_getElem? (i := 837) (by decide +kernel), List.mem_of_getElem? (i := 838) (by decide +kernel)⟩
theorem lw_p29 : lw_okq (⟨"SphereBenchModel", "find", "(IJ)Z"⟩, 26) := ⟨⟨by decide +kernel, by decide +kernel⟩, List.mem_of_getElem? (i := 711) (by decide +kernel), List.mem_of_getElem? (i := 850) (by decide +kernel), List.mem_of_getElem? (i := 851) (by decide +kernel)⟩
theorem lw_p30 : lw_okq (⟨"SphereBenchModel", "worth", "(I)J"⟩, 26) := ⟨⟨by decide +kernel, by decide +kernel⟩, List.mem_of_getElem? (i := 711) (by decide +kernel), List.mem_of_getElem? (i := 854) (by decide +kernel), List.mem_of_getElem? (i := 855) (by decide +kernel)⟩
theorem lw_p31 : lw_okq (⟨"SphereBenchModel", "co", "(III)J"⟩, 26) := ⟨⟨by decide +kernel, by decide +kernel⟩, List.mem_of_getElem? (i := 711) (by decide +kernel), List.mem_of_getElem? (i := 858) (by decide +kernel), List.mem_of_getElem? (i := 859) (by decide +kernel)⟩
def lw_privs_2 : List (MethodName × Nat) := [(⟨"SphereBench$Hunt", "numberOf", "(II)I"⟩, 13), (⟨"SphereBench", "learnSteps", "(LSphereBench$Lattice;)V"⟩, 10), (⟨"SphereBench$Rank", "setFresh", "(LSphereBench$Book;II)V"⟩, 5), (⟨"SphereBench$Rank", "keepFreshIfNew", "()V"⟩, 5), (⟨"SphereBench$Rank", "strikeOut", "(II)V"⟩, 5), (⟨"SphereBench", "showSpare", "(I)I"⟩, 10), (⟨"SphereBench$Grid", "meeting", "(LSphereBench$Grid;II)J"⟩, 2), (⟨"SphereBench$Sweep", "sizeOfRounding", "(LSphereBench$Lattice;J)J"⟩, 11), (⟨"SphereBench$Sweep", "offer", "(JLSphereBench$Book;)V"⟩, 11), (⟨"SphereBenchModel", "determinant", "([JII)J"⟩, 26), (⟨"SphereBenchModel", "minor", "([JIIII)J"⟩, 26), (⟨"SphereBenchModel", "comes", "(I)I"⟩, 26), (⟨"SphereBenchModel", "isLattice", "(I)Z"⟩, 26), (⟨"SphereBenchModel", "find", "(IJ)Z"⟩, 26), (⟨"SphereBenchModel", "worth", "(I)J"⟩, 26), (⟨"SphereBenchModel", "co", "(III)J"⟩, 26)]
theorem lw_r2 : ∀ q ∈ lw_privs_2, lw_okq q := List.forall_mem_cons.mpr ⟨lw_p16, List.forall_mem_cons.mpr ⟨lw_p17, List.forall_mem_cons.mpr ⟨lw_p18, List.forall_mem_cons.mpr ⟨lw_p19, List.forall_mem_cons.mpr ⟨lw_p20, List.forall_mem_cons.mpr ⟨lw_p21, List.forall_mem_cons.mpr ⟨lw_p22, List.forall_mem_cons.mpr ⟨lw_p23, List.forall_mem_cons.mpr ⟨lw_p24, List.forall_mem_cons.mpr ⟨lw_p25, List.forall_mem_cons.mpr ⟨lw_p26, List.forall_mem_cons.mpr ⟨lw_p27, List.forall_mem_cons.mpr ⟨lw_p28, List.forall_mem_cons.mpr ⟨lw_p29, List.forall_mem_cons.mpr ⟨lw_p30, List.forall_mem_cons.mpr ⟨lw_p31, fun _ h => absurd h List.not_mem_nil⟩⟩⟩⟩⟩⟩⟩⟩⟩⟩⟩⟩⟩⟩⟩⟩
theorem lw_p32 : lw_okq (⟨"SphereBenchModel", "isTooLarge", "(I)Z"⟩, 26) := ⟨⟨by decide +kernel, by decide +kernel⟩, List.mem_of_getElem? (i := 711) (by decide +kernel), List.mem_of_getElem? (i := 872) (by decide +kernel), List.mem_of_getElem? (i := 873) (by decide +kernel)⟩
theorem lw_p33 : lw_okq (⟨"SphereBenchModel", "meeting", "(I[JI[JI)J"⟩, 26) := ⟨⟨by decide +kernel, by decide +kernel⟩, List.mem_of_getElem? (i := 711) (by decide +kernel), List.mem_of_getElem? (i := 878) (by decide +kernel), List.mem_of_getElem? (i := 879) (by decide +kernel)⟩
theorem lw_p34 : lw_okq (⟨"SphereBenchModel", "isNought", "(I)Z"⟩, 26) := ⟨⟨by decide +kernel, by decide +kernel⟩, List.mem_of_getElem? (i := 711) (by decide +kernel), List.mem_of_getElem? (i := 882) (by decide +kernel), List.mem_of_getElem? (i := 883) (by decide +kernel)⟩
theorem lw_p35 : lw_okq (⟨"SphereBenchModel", "putIn", "(IJ)V"⟩, 26) := ⟨⟨by decide +kernel, by decide +kernel⟩, List.mem_of_getElem? (i := 711) (by decide +kernel), List.mem_of_getElem? (i := 886) (by decide +kernel), List.mem_of_getElem? (i := 887) (by decide +kernel)⟩
theorem lw_p36 : lw_okq (⟨"SphereBenchModel", "goesOn", "(I)Z"⟩, 26) := ⟨⟨by decide +kernel, by decide +kernel⟩, List.mem_of_getElem? (i := 711) (by decide +kernel), List.mem_of_getElem? (i := 890) (by decide +kernel), List.mem_of_getElem? (i := 891) (by decide +kernel)⟩
theorem lw_p37 : lw_okq (⟨"SphereBenchModel", "list", "(I)V"⟩, 26) := ⟨⟨by decide +kernel, by decide +kernel⟩, List.mem_of_getElem? (i := 711) (by decide +kernel), List.mem_of_getElem? (i := 894) (by decide +kernel), List.mem_of_getElem? (i := 895) (by decide +kernel)⟩
theorem lw_p38 : lw_okq (⟨"SphereBenchModel", "many", "(J)I"⟩, 26) := ⟨⟨by decide +kernel, by decide +kernel⟩, List.mem_of_getElem? (i := 711) (by decide +kernel), List.mem_of_getElem? (i := 902) (by decide +kernel), List.mem_of_getElem? (i := 903) (by decide +kernel)⟩
theorem lw_p39 : lw_okq (⟨"SphereBenchModel", "search", "(IIZ)I"⟩, 26) := ⟨⟨by decide +kernel, by decide +kernel⟩, List.mem_of_getElem? (i := 711) (by decide +kernel), List.mem_of_getElem? (i := 919) (by decide +kernel), List.mem_of_getElem? (i := 920) (by decide +kernel)⟩
theorem lw_p40 : lw_okq (⟨"SphereBenchModel", "meets", "(III)Z"⟩, 26) := ⟨⟨by decide +kernel, by decide +kernel⟩, List.mem_of_getElem? (i := 711) (by decide +kernel), List.mem_of_getElem? (i := 924) (by decide +kernel), List.mem_of_getElem? (i := 925) (by decide +kernel)⟩
theorem lw_p41 : lw_okq (⟨"SphereBenchModel", "findShort", "(I)Z"⟩, 26) := ⟨⟨by decide +kernel, by decide +kernel⟩, List.mem_of_getElem? (i := 711) (by decide +kernel), List.mem_of_getElem? (i := 928) (by decide +kernel), List.mem_of_getElem? (i := 929) (by decide +kernel)⟩
theorem lw_p42 : lw_okq (⟨"SphereBenchModel", "isPerfect", "(I)Z"⟩, 26) := ⟨⟨by decide +kernel, by decide +kernel⟩, List.mem_of_getElem? (i := 711) (by decide +kernel), List.mem_of_getElem? (i := 933) (by decide +kernel), List.mem_of_getElem? (i := 934) (by decide +kernel)⟩
theorem lw_p43 : lw_okq (⟨"SphereBenchModel", "rank", "(IJ)I"⟩, 26) := ⟨⟨by decide +kernel, by decide +kernel⟩, List.mem_of_getElem? (i := 711) (by decide +kernel), List.mem_of_getElem? (i := 954) (by decide +kernel), List.mem_of_getElem? (i := 955) (by decide +kernel)⟩
theorem lw_p44 : lw_okq (⟨"SphereBenchModel", "joins", "(IJ)Z"⟩, 26) := ⟨⟨by decide +kernel, by decide +kernel⟩, List.mem_of_getElem? (i := 711) (by decide +kernel), List.mem_of_getElem? (i := 961) (by decide +kernel), List.mem_of_getElem? (i := 962) (by decide +kernel)⟩
theorem lw_p45 : lw_okq (⟨"SphereBenchModel", "shortens", "(I)Z"⟩, 26) := ⟨⟨by decide +kernel, by decide +kernel⟩, List.mem_of_getElem? (i := 711) (by decide +kernel), List.mem_of_getElem? (i := 972) (by decide +kernel), List.mem_of_getElem? (i := 973) (by decide +kernel)⟩
theorem lw_p46 : lw_okq (⟨"SphereBenchModel", "order", "(I)V"⟩, 26) := ⟨⟨by decide +kernel, by decide +kernel⟩, List.mem_of_getElem? (i := 711) (by decide +kernel), List.mem_of_getElem? (i := 976) (by decide +kernel), List.mem_of_getElem? (i := 977) (by decide +kernel)⟩
theorem lw_p47 : lw_okq (⟨"SphereBenchModel", "change", "(III)V"⟩, 26) := ⟨⟨by decide +kernel, by decide +kernel⟩, List.mem_of_getElem? (i := 711) (by decide +kernel), List.mem_of_getElem? (i := 980) (by decide +kernel), List.mem_of_getElem? (i := 981) (by decide +kernel)⟩
def lw_privs_3 : List (MethodName × Nat) := [(⟨"SphereBenchModel", "isTooLarge", "(I)Z"⟩, 26), (⟨"SphereBenchModel", "meeting", "(I[JI[JI)J"⟩, 26), (⟨"SphereBenchModel", "isNought", "(I)Z"⟩, 26), (⟨"SphereBenchModel", "putIn", "(IJ)V"⟩, 26), (⟨"SphereBenchModel", "goesOn", "(I)Z"⟩, 26), (⟨"SphereBenchModel", "list", "(I)V"⟩, 26), (⟨"SphereBenchModel", "many", "(J)I"⟩, 26), (⟨"SphereBenchModel", "search", "(IIZ)I"⟩, 26), (⟨"SphereBenchModel", "meets", "(III)Z"⟩, 26), (⟨"SphereBenchModel", "findShort", "(I)Z"⟩, 26), (⟨"SphereBenchModel", "isPerfect", "(I)Z"⟩, 26), (⟨"SphereBenchModel", "rank", "(IJ)I"⟩, 26), (⟨"SphereBenchModel", "joins", "(IJ)Z"⟩, 26), (⟨"SphereBenchModel", "shortens", "(I)Z"⟩, 26), (⟨"SphereBenchModel", "order", "(I)V"⟩, 26), (⟨"SphereBenchModel", "change", "(III)V"⟩, 26)]
theorem lw_r3 : ∀ q ∈ lw_privs_3, lw_okq q := List.forall_mem_cons.mpr ⟨lw_p32, List.forall_mem_cons.mpr ⟨lw_p33, List.forall_mem_cons.mpr ⟨lw_p34, List.forall_mem_cons.mpr ⟨lw_p35, List.forall_mem_cons.mpr ⟨lw_p36, List.forall_mem_cons.mpr ⟨lw_p37, List.forall_mem_cons.mpr ⟨lw_p38, List.forall_mem_cons.mpr ⟨lw_p39, List.forall_mem_cons.mpr ⟨lw_p40, List.forall_mem_cons.mpr ⟨lw_p41, List.forall_mem_cons.mpr ⟨lw_p42, List.forall_mem_cons.mpr ⟨lw_p43, List.forall_mem_cons.mpr ⟨lw_p44, List.forall_mem_cons.mpr ⟨lw_p45, List.forall_mem_cons.mpr ⟨lw_p46, List.forall_mem_cons.mpr ⟨lw_p47, fun _ h => absurd h List.not_mem_nil⟩⟩⟩⟩⟩⟩⟩⟩⟩⟩⟩⟩⟩⟩⟩⟩
theorem lw_p48 : lw_okq (⟨"SphereBenchModel", "keepWay", "(I)V"⟩, 26) := ⟨⟨by decide +kernel, by decide +kernel⟩, List.mem_of_getElem? (i := 711) (by decide +kernel), List.mem_of_getElem? (i := 984) (by decide +kernel), List.mem_of_getElem? (i := 985) (by decide +kernel)⟩
theorem lw_p49 : lw_okq (⟨"SphereBenchModel", "offSize", "(II)J"⟩, 26) := ⟨⟨by decide +kernel, by decide +kernel⟩, List.mem_of_getElem? (i := 711) (by decide +kernel), List.mem_of_getElem? (i := 1036) (by decide +kernel), List.mem_of_getElem? (i := 1037) (by decide +kernel)⟩
def lw_privs_4 : List (MethodName × Nat) := [(⟨"SphereBenchModel", "keepWay", "(I)V"⟩, 26), (⟨"SphereBenchModel", "offSize", "(II)J"⟩, 26)]
theorem lw_r4 : ∀ q ∈ lw_privs_4, lw_okq q := List.forall_mem_cons.mpr ⟨lw_p48, List.forall_mem_cons.mpr ⟨lw_p49, fun _ h => absurd h List.not_mem_nil⟩⟩
def lw_privs : List (MethodName × Nat) := lw_privs_1 ++ (lw_privs_2 ++ (lw_privs_3 ++ (lw_privs_4)))
def lw_tbl : List Cond := k2_sels lw_privs ++ tables_1
theorem lw_privs_ok : ∀ q ∈ lw_privs, lw_okq q := by
  show ∀ q ∈ lw_privs_1 ++ (lw_privs_2 ++ (lw_privs_3 ++ (lw_privs_4))), lw_okq q
  exact List.forall_mem_append.mpr ⟨lw_r1, List.forall_mem_append.mpr ⟨lw_r2, List.forall_mem_append.mpr ⟨lw_r3, lw_r4⟩⟩⟩
def RX0 : String := "SphereBench$Book"
def TX0 : u_T := fun k => match k with
  | 0 => ("SphereBench$Book", "ways", "I", false)
  | 1 => ("SphereBench$Book", "count", "I", false)
  | 2 => ("SphereBench$Book", "low", "[J", true)
  | 3 => ("SphereBench$Book", "span", "[J", true)
  | _ => ("SphereBench$Book", "keys", "[J", true)
def tyX0 : Nat → FieldType := fun k => match k with
  | 0 => .int
  | 1 => .int
  | 2 => .array .long
  | 3 => .array .long
  | _ => .array .long
theorem nmX0 : ∀ a, a < 5 → ∀ b, b < 5 → a ≠ b → (TX0 a).2.1 ≠ (TX0 b).2.1 := by decide +kernel
theorem tyX0_ok : ∀ k, k < 5 → parseFieldDescriptor (TX0 k).2.2.1 = some (tyX0 k) := by decide +kernel
abbrev cX0_init : ByteArray := prog_2_method_1_code
def yX0_init : MethodName := ⟨RX0, "<init>", "()V"⟩
abbrev cX0_ways : ByteArray := prog_2_method_2_code
def yX0_ways : MethodName := ⟨RX0, "ways", "()I"⟩
abbrev cX0_count : ByteArray := prog_2_method_3_code
def yX0_count : MethodName := ⟨RX0, "count", "()I"⟩
abbrev cX0_has : ByteArray := prog_2_method_4_code
def yX0_has : MethodName := ⟨RX0, "has", "(II)Z"⟩
abbrev cX0_open : ByteArray := prog_2_method_5_code
def yX0_open : MethodName := ⟨RX0, "open", "(I)V"⟩
abbrev cX0_forgetRows : ByteArray := prog_2_method_6_code
def yX0_forgetRows : MethodName := ⟨RX0, "forgetRows", "()V"⟩
abbrev cX0_setRange : ByteArray := prog_2_method_7_code
def yX0_setRange : MethodName := ⟨RX0, "setRange", "(IJJ)V"⟩
abbrev cX0_lowest : ByteArray := prog_2_method_8_code
def yX0_lowest : MethodName := ⟨RX0, "lowest", "(I)J"⟩
abbrev cX0_span : ByteArray := prog_2_method_9_code
def yX0_span : MethodName := ⟨RX0, "span", "(I)J"⟩
abbrev cX0_boxCount : ByteArray := prog_2_method_10_code
def yX0_boxCount : MethodName := ⟨RX0, "boxCount", "()J"⟩
abbrev cX0_widest : ByteArray := prog_2_method_11_code
def yX0_widest : MethodName := ⟨RX0, "widest", "()I"⟩
abbrev cX0_note : ByteArray := prog_2_method_12_code
def yX0_note : MethodName := ⟨RX0, "note", "(J[J)Z"⟩
abbrev cX0_sizeAt : ByteArray := prog_2_method_13_code
def yX0_sizeAt : MethodName := ⟨RX0, "sizeAt", "(I)J"⟩
abbrev cX0_numberAt : ByteArray := prog_2_method_14_code
def yX0_numberAt : MethodName := ⟨RX0, "numberAt", "(II)I"⟩
abbrev cX0_firstAbove : ByteArray := prog_2_method_15_code
def yX0_firstAbove : MethodName := ⟨RX0, "firstAbove", "(J)I"⟩
abbrev cX0_sort : ByteArray := prog_2_method_16_code
def yX0_sort : MethodName := ⟨RX0, "sort", "()V"⟩
abbrev cX0_sink : ByteArray := prog_2_method_17_code
def yX0_sink : MethodName := ⟨RX0, "sink", "(II)V"⟩
def RX1 : String := "SphereBench$Grid"
def TX1 : u_T := fun k => match k with
  | 0 => ("SphereBench$Grid", "lines", "I", false)
  | _ => ("SphereBench$Grid", "numbers", "[J", true)
def tyX1 : Nat → FieldType := fun k => match k with
  | 0 => .int
  | _ => .array .long
theorem nmX1 : ∀ a, a < 2 → ∀ b, b < 2 → a ≠ b → (TX1 a).2.1 ≠ (TX1 b).2.1 := by decide +kernel
theorem tyX1_ok : ∀ k, k < 2 → parseFieldDescriptor (TX1 k).2.2.1 = some (tyX1 k) := by decide +kernel
abbrev cX1_init : ByteArray := prog_3_method_1_code
def yX1_init : MethodName := ⟨RX1, "<init>", "()V"⟩
abbrev cX1_lines : ByteArray := prog_3_method_2_code
def yX1_lines : MethodName := ⟨RX1, "lines", "()I"⟩
abbrev cX1_open : ByteArray := prog_3_method_3_code
def yX1_open : MethodName := ⟨RX1, "open", "(I)V"⟩
abbrev cX1_has : ByteArray := prog_3_method_4_code
def yX1_has : MethodName := ⟨RX1, "has", "(II)Z"⟩
abbrev cX1_at : ByteArray := prog_3_method_5_code
def yX1_at : MethodName := ⟨RX1, "at", "(II)J"⟩
abbrev cX1_put : ByteArray := prog_3_method_6_code
def yX1_put : MethodName := ⟨RX1, "put", "(IIJ)V"⟩
abbrev cX1_copy : ByteArray := prog_3_method_7_code
def yX1_copy : MethodName := ⟨RX1, "copy", "(LSphereBench$Grid;)V"⟩
abbrev cX1_lay : ByteArray := prog_3_method_8_code
def yX1_lay : MethodName := ⟨RX1, "lay", "(LSphereBench$Grid;I)V"⟩
abbrev cX1_multiply : ByteArray := prog_3_method_9_code
def yX1_multiply : MethodName := ⟨RX1, "multiply", "(J)V"⟩
abbrev cX1_openMeetings : ByteArray := prog_3_method_10_code
def yX1_openMeetings : MethodName := ⟨RX1, "openMeetings", "(LSphereBench$Grid;LSphereBench$Grid;)V"⟩
abbrev cX1_meeting : ByteArray := prog_3_method_11_code
def yX1_meeting : MethodName := ⟨RX1, "meeting", "(LSphereBench$Grid;II)J"⟩
abbrev cX1_lineBy : ByteArray := prog_3_method_12_code
def yX1_lineBy : MethodName := ⟨RX1, "lineBy", "(I[J)J"⟩
abbrev cX1_takeLineAway : ByteArray := prog_3_method_13_code
def yX1_takeLineAway : MethodName := ⟨RX1, "takeLineAway", "(IIJ)V"⟩
abbrev cX1_takePlaceAway : ByteArray := prog_3_method_14_code
def yX1_takePlaceAway : MethodName := ⟨RX1, "takePlaceAway", "(IIJ)V"⟩
abbrev cX1_swapLines : ByteArray := prog_3_method_15_code
def yX1_swapLines : MethodName := ⟨RX1, "swapLines", "(II)V"⟩
abbrev cX1_swapPlaces : ByteArray := prog_3_method_16_code
def yX1_swapPlaces : MethodName := ⟨RX1, "swapPlaces", "(II)V"⟩
abbrev cX1_isSmall : ByteArray := prog_3_method_17_code
def yX1_isSmall : MethodName := ⟨RX1, "isSmall", "()Z"⟩
abbrev cX1_isEvenAcross : ByteArray := prog_3_method_18_code
def yX1_isEvenAcross : MethodName := ⟨RX1, "isEvenAcross", "()Z"⟩
abbrev cX1_leastAcross : ByteArray := prog_3_method_19_code
def yX1_leastAcross : MethodName := ⟨RX1, "leastAcross", "()I"⟩
abbrev cX1_greatestAcross : ByteArray := prog_3_method_20_code
def yX1_greatestAcross : MethodName := ⟨RX1, "greatestAcross", "()I"⟩
abbrev cX1_firstUnlikeLine : ByteArray := prog_3_method_21_code
def yX1_firstUnlikeLine : MethodName := ⟨RX1, "firstUnlikeLine", "()I"⟩
abbrev cX1_firstFlatCorner : ByteArray := prog_3_method_22_code
def yX1_firstFlatCorner : MethodName := ⟨RX1, "firstFlatCorner", "()I"⟩
abbrev cX1_determinant : ByteArray := prog_3_method_23_code
def yX1_determinant : MethodName := ⟨RX1, "determinant", "()J"⟩
abbrev cX1_cofactor : ByteArray := prog_3_method_24_code
def yX1_cofactor : MethodName := ⟨RX1, "cofactor", "(II)J"⟩
abbrev cX1_expand : ByteArray := prog_3_method_25_code
def yX1_expand : MethodName := ⟨RX1, "expand", "(IIII)J"⟩
def RX2 : String := "SphereBench$Hunt"
def TX2 : u_T := fun k => match k with
  | 0 => ("SphereBench$Hunt", "ways", "I", false)
  | 1 => ("SphereBench$Hunt", "tries", "I", false)
  | 2 => ("SphereBench$Hunt", "found", "J", false)
  | 3 => ("SphereBench$Hunt", "firstOnly", "Z", false)
  | 4 => ("SphereBench$Hunt", "spent", "Z", false)
  | 5 => ("SphereBench$Hunt", "form", "LSphereBench$Grid;", true)
  | 6 => ("SphereBench$Hunt", "wanted", "LSphereBench$Grid;", true)
  | 7 => ("SphereBench$Hunt", "begin", "[I", true)
  | 8 => ("SphereBench$Hunt", "end", "[I", true)
  | 9 => ("SphereBench$Hunt", "chosen", "[I", true)
  | 10 => ("SphereBench$Hunt", "numbers", "[I", true)
  | 11 => ("SphereBench$Hunt", "held", "[J", true)
  | _ => ("SphereBench$Hunt", "pulls", "[J", true)
def tyX2 : Nat → FieldType := fun k => match k with
  | 0 => .int
  | 1 => .int
  | 2 => .long
  | 3 => .boolean
  | 4 => .boolean
  | 5 => .object "SphereBench$Grid"
  | 6 => .object "SphereBench$Grid"
  | 7 => .array .int
  | 8 => .array .int
  | 9 => .array .int
  | 10 => .array .int
  | 11 => .array .long
  | _ => .array .long
theorem nmX2 : ∀ a, a < 13 → ∀ b, b < 13 → a ≠ b → (TX2 a).2.1 ≠ (TX2 b).2.1 := by decide +kernel
theorem tyX2_ok : ∀ k, k < 13 → parseFieldDescriptor (TX2 k).2.2.1 = some (tyX2 k) := by decide +kernel
abbrev cX2_init : ByteArray := prog_4_method_1_code
def yX2_init : MethodName := ⟨RX2, "<init>", "()V"⟩
abbrev cX2_count : ByteArray := prog_4_method_2_code
def yX2_count : MethodName := ⟨RX2, "count", "(LSphereBench$Grid;LSphereBench$Grid;LSphereBench$Book;Z)J"⟩
abbrev cX2_tellWay : ByteArray := prog_4_method_3_code
def yX2_tellWay : MethodName := ⟨RX2, "tellWay", "(LSphereBench$Grid;)V"⟩
abbrev cX2_numberOf : ByteArray := prog_4_method_4_code
def yX2_numberOf : MethodName := ⟨RX2, "numberOf", "(II)I"⟩
abbrev cX2_choose : ByteArray := prog_4_method_5_code
def yX2_choose : MethodName := ⟨RX2, "choose", "(I)Z"⟩
abbrev cX2_meetsAsWanted : ByteArray := prog_4_method_6_code
def yX2_meetsAsWanted : MethodName := ⟨RX2, "meetsAsWanted", "(II)Z"⟩
abbrev cX2_hold : ByteArray := prog_4_method_7_code
def yX2_hold : MethodName := ⟨RX2, "hold", "(II)V"⟩
def RX3 : String := "SphereBench$Lattice"
def TX3 : u_T := fun k => match k with
  | 0 => ("SphereBench$Lattice", "form", "LSphereBench$Grid;", true)
  | 1 => ("SphereBench$Lattice", "co", "LSphereBench$Grid;", true)
  | 2 => ("SphereBench$Lattice", "facts", "[J", true)
  | _ => ("SphereBench$Lattice", "worth", "J", false)
def tyX3 : Nat → FieldType := fun k => match k with
  | 0 => .object "SphereBench$Grid"
  | 1 => .object "SphereBench$Grid"
  | 2 => .array .long
  | _ => .long
theorem nmX3 : ∀ a, a < 4 → ∀ b, b < 4 → a ≠ b → (TX3 a).2.1 ≠ (TX3 b).2.1 := by decide +kernel
theorem tyX3_ok : ∀ k, k < 4 → parseFieldDescriptor (TX3 k).2.2.1 = some (tyX3 k) := by decide +kernel
abbrev cX3_init : ByteArray := prog_5_method_1_code
def yX3_init : MethodName := ⟨RX3, "<init>", "()V"⟩
abbrev cX3_ways : ByteArray := prog_5_method_2_code
def yX3_ways : MethodName := ⟨RX3, "ways", "()I"⟩
abbrev cX3_settle : ByteArray := prog_5_method_3_code
def yX3_settle : MethodName := ⟨RX3, "settle", "()V"⟩
abbrev cX3_setStepFacts : ByteArray := prog_5_method_4_code
def yX3_setStepFacts : MethodName := ⟨RX3, "setStepFacts", "(JJJ)V"⟩
def RX4 : String := "SphereBench$Rank"
def TX4 : u_T := fun k => match k with
  | 0 => ("SphereBench$Rank", "pairs", "I", false)
  | 1 => ("SphereBench$Rank", "kept", "I", false)
  | 2 => ("SphereBench$Rank", "fresh", "[J", true)
  | 3 => ("SphereBench$Rank", "tables", "[J", true)
  | _ => ("SphereBench$Rank", "leads", "[I", true)
def tyX4 : Nat → FieldType := fun k => match k with
  | 0 => .int
  | 1 => .int
  | 2 => .array .long
  | 3 => .array .long
  | _ => .array .int
theorem nmX4 : ∀ a, a < 5 → ∀ b, b < 5 → a ≠ b → (TX4 a).2.1 ≠ (TX4 b).2.1 := by decide +kernel
theorem tyX4_ok : ∀ k, k < 5 → parseFieldDescriptor (TX4 k).2.2.1 = some (tyX4 k) := by decide +kernel
abbrev cX4_init : ByteArray := prog_6_method_1_code
def yX4_init : MethodName := ⟨RX4, "<init>", "()V"⟩
abbrev cX4_isFull : ByteArray := prog_6_method_2_code
def yX4_isFull : MethodName := ⟨RX4, "isFull", "(LSphereBench$Book;I)Z"⟩
abbrev cX4_setFresh : ByteArray := prog_6_method_3_code
def yX4_setFresh : MethodName := ⟨RX4, "setFresh", "(LSphereBench$Book;II)V"⟩
abbrev cX4_keepFreshIfNew : ByteArray := prog_6_method_4_code
def yX4_keepFreshIfNew : MethodName := ⟨RX4, "keepFreshIfNew", "()V"⟩
abbrev cX4_strikeOut : ByteArray := prog_6_method_5_code
def yX4_strikeOut : MethodName := ⟨RX4, "strikeOut", "(II)V"⟩
def RX5 : String := "SphereBench$Sweep"
def TX5 : u_T := fun k => match k with
  | 0 => ("SphereBench$Sweep", "q", "I", false)
  | 1 => ("SphereBench$Sweep", "free", "I", false)
  | 2 => ("SphereBench$Sweep", "square", "J", false)
  | 3 => ("SphereBench$Sweep", "slope", "J", false)
  | 4 => ("SphereBench$Sweep", "rest", "J", false)
  | 5 => ("SphereBench$Sweep", "best", "J", false)
  | 6 => ("SphereBench$Sweep", "overfull", "Z", false)
  | 7 => ("SphereBench$Sweep", "form", "LSphereBench$Grid;", true)
  | 8 => ("SphereBench$Sweep", "p", "[J", true)
  | 9 => ("SphereBench$Sweep", "x", "[J", true)
  | _ => ("SphereBench$Sweep", "z", "[J", true)
def tyX5 : Nat → FieldType := fun k => match k with
  | 0 => .int
  | 1 => .int
  | 2 => .long
  | 3 => .long
  | 4 => .long
  | 5 => .long
  | 6 => .boolean
  | 7 => .object "SphereBench$Grid"
  | 8 => .array .long
  | 9 => .array .long
  | _ => .array .long
theorem nmX5 : ∀ a, a < 11 → ∀ b, b < 11 → a ≠ b → (TX5 a).2.1 ≠ (TX5 b).2.1 := by decide +kernel
theorem tyX5_ok : ∀ k, k < 11 → parseFieldDescriptor (TX5 k).2.2.1 = some (tyX5 k) := by decide +kernel
abbrev cX5_init : ByteArray := prog_7_method_1_code
def yX5_init : MethodName := ⟨RX5, "<init>", "()V"⟩
abbrev cX5_aimAt : ByteArray := prog_7_method_2_code
def yX5_aimAt : MethodName := ⟨RX5, "aimAt", "(IIII)V"⟩
abbrev cX5_aimIsNear : ByteArray := prog_7_method_3_code
def yX5_aimIsNear : MethodName := ⟨RX5, "aimIsNear", "(I)Z"⟩
abbrev cX5_gatherUpTo : ByteArray := prog_7_method_4_code
def yX5_gatherUpTo : MethodName := ⟨RX5, "gatherUpTo", "(LSphereBench$Lattice;ILSphereBench$Book;)I"⟩
abbrev cX5_gatherNearest : ByteArray := prog_7_method_5_code
def yX5_gatherNearest : MethodName := ⟨RX5, "gatherNearest", "(LSphereBench$Lattice;ILSphereBench$Book;)I"⟩
abbrev cX5_sizeOfRounding : ByteArray := prog_7_method_6_code
def yX5_sizeOfRounding : MethodName := ⟨RX5, "sizeOfRounding", "(LSphereBench$Lattice;J)J"⟩
abbrev cX5_begin : ByteArray := prog_7_method_7_code
def yX5_begin : MethodName := ⟨RX5, "begin", "(LSphereBench$Lattice;IJLSphereBench$Book;)Z"⟩
abbrev cX5_setNumber : ByteArray := prog_7_method_8_code
def yX5_setNumber : MethodName := ⟨RX5, "setNumber", "(IJ)V"⟩
abbrev cX5_advance : ByteArray := prog_7_method_9_code
def yX5_advance : MethodName := ⟨RX5, "advance", "(LSphereBench$Book;)V"⟩
abbrev cX5_prepare : ByteArray := prog_7_method_10_code
def yX5_prepare : MethodName := ⟨RX5, "prepare", "()V"⟩
abbrev cX5_sizeFor : ByteArray := prog_7_method_11_code
def yX5_sizeFor : MethodName := ⟨RX5, "sizeFor", "(J)J"⟩
abbrev cX5_noteUpTo : ByteArray := prog_7_method_12_code
def yX5_noteUpTo : MethodName := ⟨RX5, "noteUpTo", "(JLSphereBench$Book;)Z"⟩
abbrev cX5_offer : ByteArray := prog_7_method_13_code
def yX5_offer : MethodName := ⟨RX5, "offer", "(JLSphereBench$Book;)V"⟩
abbrev cX5_rootOf : ByteArray := prog_7_method_14_code
def yX5_rootOf : MethodName := ⟨RX5, "rootOf", "(J)J"⟩
abbrev cX5_floorOf : ByteArray := prog_7_method_15_code
def yX5_floorOf : MethodName := ⟨RX5, "floorOf", "(JJ)J"⟩
abbrev cX5_ceilingOf : ByteArray := prog_7_method_16_code
def yX5_ceilingOf : MethodName := ⟨RX5, "ceilingOf", "(JJ)J"⟩
def RX6 : String := "SphereBench"
def TX6 : u_T := fun k => match k with
  | 0 => ("SphereBench", "page", "LSphereBench$Grid;", true)
  | 1 => ("SphereBench", "keptWay", "LSphereBench$Grid;", true)
  | 2 => ("SphereBench", "trialWay", "LSphereBench$Grid;", true)
  | 3 => ("SphereBench", "shelf", "[LSphereBench$Lattice;", true)
  | 4 => ("SphereBench", "sweep", "LSphereBench$Sweep;", true)
  | 5 => ("SphereBench", "hunt", "LSphereBench$Hunt;", true)
  | 6 => ("SphereBench", "rank", "LSphereBench$Rank;", true)
  | 7 => ("SphereBench", "lattices", "I", false)
  | 8 => ("SphereBench", "list", "LSphereBench$Book;", false)
  | _ => ("SphereBench", "spare", "LSphereBench$Book;", false)
def tyX6 : Nat → FieldType := fun k => match k with
  | 0 => .object "SphereBench$Grid"
  | 1 => .object "SphereBench$Grid"
  | 2 => .object "SphereBench$Grid"
  | 3 => .array (.object "SphereBench$Lattice")
  | 4 => .object "SphereBench$Sweep"
  | 5 => .object "SphereBench$Hunt"
  | 6 => .object "SphereBench$Rank"
  | 7 => .int
  | 8 => .object "SphereBench$Book"
  | _ => .object "SphereBench$Book"
theorem nmX6 : ∀ a, a < 10 → ∀ b, b < 10 → a ≠ b → (TX6 a).2.1 ≠ (TX6 b).2.1 := by decide +kernel
theorem tyX6_ok : ∀ k, k < 10 → parseFieldDescriptor (TX6 k).2.2.1 = some (tyX6 k) := by decide +kernel
abbrev cX6_init : ByteArray := prog_1_method_1_code
def yX6_init : MethodName := ⟨RX6, "<init>", "()V"⟩
abbrev cX6_sheet : ByteArray := prog_1_method_2_code
def yX6_sheet : MethodName := ⟨RX6, "sheet", "(I)Z"⟩
abbrev cX6_cell : ByteArray := prog_1_method_3_code
def yX6_cell : MethodName := ⟨RX6, "cell", "(III)Z"⟩
abbrev cX6_cellOf : ByteArray := prog_1_method_4_code
def yX6_cellOf : MethodName := ⟨RX6, "cellOf", "(II)I"⟩
abbrev cX6_take : ByteArray := prog_1_method_5_code
def yX6_take : MethodName := ⟨RX6, "take", "()I"⟩
abbrev cX6_table : ByteArray := prog_1_method_6_code
def yX6_table : MethodName := ⟨RX6, "table", "(III)I"⟩
abbrev cX6_about : ByteArray := prog_1_method_7_code
def yX6_about : MethodName := ⟨RX6, "about", "(II)J"⟩
abbrev cX6_rows : ByteArray := prog_1_method_8_code
def yX6_rows : MethodName := ⟨RX6, "rows", "(II)I"⟩
abbrev cX6_theta : ByteArray := prog_1_method_9_code
def yX6_theta : MethodName := ⟨RX6, "theta", "(II)I"⟩
abbrev cX6_row : ByteArray := prog_1_method_10_code
def yX6_row : MethodName := ⟨RX6, "row", "(II)I"⟩
abbrev cX6_size : ByteArray := prog_1_method_11_code
def yX6_size : MethodName := ⟨RX6, "size", "(I)J"⟩
abbrev cX6_reduce : ByteArray := prog_1_method_12_code
def yX6_reduce : MethodName := ⟨RX6, "reduce", "(I)I"⟩
abbrev cX6_same : ByteArray := prog_1_method_13_code
def yX6_same : MethodName := ⟨RX6, "same", "(II)I"⟩
abbrev cX6_way : ByteArray := prog_1_method_14_code
def yX6_way : MethodName := ⟨RX6, "way", "(II)I"⟩
abbrev cX6_wayWorth : ByteArray := prog_1_method_15_code
def yX6_wayWorth : MethodName := ⟨RX6, "wayWorth", "()J"⟩
abbrev cX6_dual : ByteArray := prog_1_method_16_code
def yX6_dual : MethodName := ⟨RX6, "dual", "(I)I"⟩
abbrev cX6_sum : ByteArray := prog_1_method_17_code
def yX6_sum : MethodName := ⟨RX6, "sum", "(II)I"⟩
abbrev cX6_scale : ByteArray := prog_1_method_18_code
def yX6_scale : MethodName := ⟨RX6, "scale", "(II)I"⟩
abbrev cX6_within : ByteArray := prog_1_method_19_code
def yX6_within : MethodName := ⟨RX6, "within", "(I)I"⟩
abbrev cX6_index : ByteArray := prog_1_method_20_code
def yX6_index : MethodName := ⟨RX6, "index", "()J"⟩
abbrev cX6_denser : ByteArray := prog_1_method_21_code
def yX6_denser : MethodName := ⟨RX6, "denser", "(II)I"⟩
abbrev cX6_nearest : ByteArray := prog_1_method_22_code
def yX6_nearest : MethodName := ⟨RX6, "nearest", "(IIIIII)I"⟩
abbrev cX6_told : ByteArray := prog_1_method_23_code
def yX6_told : MethodName := ⟨RX6, "told", "(I)I"⟩
abbrev cX6_latticeAt : ByteArray := prog_1_method_24_code
def yX6_latticeAt : MethodName := ⟨RX6, "latticeAt", "(I)LSphereBench$Lattice;"⟩
abbrev cX6_freeLattice : ByteArray := prog_1_method_25_code
def yX6_freeLattice : MethodName := ⟨RX6, "freeLattice", "()LSphereBench$Lattice;"⟩
abbrev cX6_keepIfSmall : ByteArray := prog_1_method_26_code
def yX6_keepIfSmall : MethodName := ⟨RX6, "keepIfSmall", "(LSphereBench$Lattice;)I"⟩
abbrev cX6_showSpare : ByteArray := prog_1_method_27_code
def yX6_showSpare : MethodName := ⟨RX6, "showSpare", "(I)I"⟩
abbrev cX6_factOf : ByteArray := prog_1_method_28_code
def yX6_factOf : MethodName := ⟨RX6, "factOf", "(LSphereBench$Lattice;I)J"⟩
abbrev cX6_learnSteps : ByteArray := prog_1_method_29_code
def yX6_learnSteps : MethodName := ⟨RX6, "learnSteps", "(LSphereBench$Lattice;)V"⟩
abbrev cX6_countWays : ByteArray := prog_1_method_30_code
def yX6_countWays : MethodName := ⟨RX6, "countWays", "(LSphereBench$Lattice;LSphereBench$Lattice;Z)J"⟩
abbrev cX6_shortenAll : ByteArray := prog_1_method_31_code
def yX6_shortenAll : MethodName := ⟨RX6, "shortenAll", "(LSphereBench$Grid;LSphereBench$Grid;)V"⟩
abbrev cX6_shortenFirst : ByteArray := prog_1_method_32_code
def yX6_shortenFirst : MethodName := ⟨RX6, "shortenFirst", "(LSphereBench$Grid;LSphereBench$Grid;)Z"⟩
abbrev cX6_nearestTowardsZero : ByteArray := prog_1_method_33_code
def yX6_nearestTowardsZero : MethodName := ⟨RX6, "nearestTowardsZero", "(JJ)J"⟩
abbrev cX6_sortBySizes : ByteArray := prog_1_method_34_code
def yX6_sortBySizes : MethodName := ⟨RX6, "sortBySizes", "(LSphereBench$Grid;LSphereBench$Grid;)V"⟩
abbrev cX6_power : ByteArray := prog_1_method_35_code
def yX6_power : MethodName := ⟨RX6, "power", "(JI)J"⟩
abbrev cX6_compareFractions : ByteArray := prog_1_method_36_code
def yX6_compareFractions : MethodName := ⟨RX6, "compareFractions", "(JJJJ)I"⟩
def RX7 : String := "SphereBenchModel"
def TX7 : u_T := fun k => match k with
  | 0 => ("SphereBenchModel", "ways", "[I", true)
  | 1 => ("SphereBenchModel", "table", "[J", true)
  | 2 => ("SphereBenchModel", "lattices", "I", false)
  | 3 => ("SphereBenchModel", "lines", "I", false)
  | 4 => ("SphereBenchModel", "sheet", "[J", true)
  | 5 => ("SphereBenchModel", "listRow", "[J", true)
  | 6 => ("SphereBenchModel", "listSize", "[J", true)
  | 7 => ("SphereBenchModel", "listed", "I", false)
  | 8 => ("SphereBenchModel", "listWays", "I", false)
  | 9 => ("SphereBenchModel", "way", "[J", true)
  | 10 => ("SphereBenchModel", "wayRows", "I", false)
  | 11 => ("SphereBenchModel", "foundRow", "[J", true)
  | 12 => ("SphereBenchModel", "foundSize", "[J", true)
  | 13 => ("SphereBenchModel", "found", "I", false)
  | 14 => ("SphereBenchModel", "small", "[J", true)
  | 15 => ("SphereBenchModel", "made", "[J", true)
  | 16 => ("SphereBenchModel", "now", "[J", true)
  | 17 => ("SphereBenchModel", "low", "[J", true)
  | 18 => ("SphereBenchModel", "high", "[J", true)
  | 19 => ("SphereBenchModel", "line", "[J", true)
  | 20 => ("SphereBenchModel", "base", "[J", true)
  | 21 => ("SphereBenchModel", "hasBase", "[Z", true)
  | 22 => ("SphereBenchModel", "rows", "[J", true)
  | 23 => ("SphereBenchModel", "pick", "[I", true)
  | 24 => ("SphereBenchModel", "place", "[J", true)
  | _ => ("SphereBenchModel", "off", "[J", true)
def tyX7 : Nat → FieldType := fun k => match k with
  | 0 => .array .int
  | 1 => .array .long
  | 2 => .int
  | 3 => .int
  | 4 => .array .long
  | 5 => .array .long
  | 6 => .array .long
  | 7 => .int
  | 8 => .int
  | 9 => .array .long
  | 10 => .int
  | 11 => .array .long
  | 12 => .array .long
  | 13 => .int
  | 14 => .array .long
  | 15 => .array .long
  | 16 => .array .long
  | 17 => .array .long
  | 18 => .array .long
  | 19 => .array .long
  | 20 => .array .long
  | 21 => .array .boolean
  | 22 => .array .long
  | 23 => .array .int
  | 24 => .array .long
  | _ => .array .long
theorem nmX7 : ∀ a, a < 26 → ∀ b, b < 26 → a ≠ b → (TX7 a).2.1 ≠ (TX7 b).2.1 := by decide +kernel
theorem tyX7_ok : ∀ k, k < 26 → parseFieldDescriptor (TX7 k).2.2.1 = some (tyX7 k) := by decide +kernel
abbrev cX7_init : ByteArray := prog_9_method_1_code
def yX7_init : MethodName := ⟨RX7, "<init>", "()V"⟩
abbrev cX7_isIn : ByteArray := prog_9_method_2_code
def yX7_isIn : MethodName := ⟨RX7, "isIn", "(JJJ)Z"⟩
abbrev cX7_isLattice : ByteArray := prog_9_method_3_code
def yX7_isLattice : MethodName := ⟨RX7, "isLattice", "(I)Z"⟩
abbrev cX7_minor : ByteArray := prog_9_method_4_code
def yX7_minor : MethodName := ⟨RX7, "minor", "([JIIII)J"⟩
abbrev cX7_determinant : ByteArray := prog_9_method_5_code
def yX7_determinant : MethodName := ⟨RX7, "determinant", "([JII)J"⟩
abbrev cX7_worth : ByteArray := prog_9_method_6_code
def yX7_worth : MethodName := ⟨RX7, "worth", "(I)J"⟩
abbrev cX7_co : ByteArray := prog_9_method_7_code
def yX7_co : MethodName := ⟨RX7, "co", "(III)J"⟩
abbrev cX7_sheet : ByteArray := prog_9_method_8_code
def yX7_sheet : MethodName := ⟨RX7, "sheet", "(I)Z"⟩
abbrev cX7_cell : ByteArray := prog_9_method_9_code
def yX7_cell : MethodName := ⟨RX7, "cell", "(III)Z"⟩
abbrev cX7_cellOf : ByteArray := prog_9_method_10_code
def yX7_cellOf : MethodName := ⟨RX7, "cellOf", "(II)I"⟩
abbrev cX7_take : ByteArray := prog_9_method_11_code
def yX7_take : MethodName := ⟨RX7, "take", "()I"⟩
abbrev cX7_comes : ByteArray := prog_9_method_12_code
def yX7_comes : MethodName := ⟨RX7, "comes", "(I)I"⟩
abbrev cX7_table : ByteArray := prog_9_method_13_code
def yX7_table : MethodName := ⟨RX7, "table", "(III)I"⟩
abbrev cX7_index : ByteArray := prog_9_method_14_code
def yX7_index : MethodName := ⟨RX7, "index", "()J"⟩
abbrev cX7_meeting : ByteArray := prog_9_method_15_code
def yX7_meeting : MethodName := ⟨RX7, "meeting", "(I[JI[JI)J"⟩
abbrev cX7_root : ByteArray := prog_9_method_16_code
def yX7_root : MethodName := ⟨RX7, "root", "(J)J"⟩
abbrev cX7_part : ByteArray := prog_9_method_17_code
def yX7_part : MethodName := ⟨RX7, "part", "(JJJ)J"⟩
abbrev cX7_isTooLarge : ByteArray := prog_9_method_18_code
def yX7_isTooLarge : MethodName := ⟨RX7, "isTooLarge", "(I)Z"⟩
abbrev cX7_goesOn : ByteArray := prog_9_method_19_code
def yX7_goesOn : MethodName := ⟨RX7, "goesOn", "(I)Z"⟩
abbrev cX7_isNought : ByteArray := prog_9_method_20_code
def yX7_isNought : MethodName := ⟨RX7, "isNought", "(I)Z"⟩
abbrev cX7_putIn : ByteArray := prog_9_method_21_code
def yX7_putIn : MethodName := ⟨RX7, "putIn", "(IJ)V"⟩
abbrev cX7_find : ByteArray := prog_9_method_22_code
def yX7_find : MethodName := ⟨RX7, "find", "(IJ)Z"⟩
abbrev cX7_list : ByteArray := prog_9_method_23_code
def yX7_list : MethodName := ⟨RX7, "list", "(I)V"⟩
abbrev cX7_rows : ByteArray := prog_9_method_24_code
def yX7_rows : MethodName := ⟨RX7, "rows", "(II)I"⟩
abbrev cX7_many : ByteArray := prog_9_method_25_code
def yX7_many : MethodName := ⟨RX7, "many", "(J)I"⟩
abbrev cX7_theta : ByteArray := prog_9_method_26_code
def yX7_theta : MethodName := ⟨RX7, "theta", "(II)I"⟩
abbrev cX7_row : ByteArray := prog_9_method_27_code
def yX7_row : MethodName := ⟨RX7, "row", "(II)I"⟩
abbrev cX7_size : ByteArray := prog_9_method_28_code
def yX7_size : MethodName := ⟨RX7, "size", "(I)J"⟩
abbrev cX7_findShort : ByteArray := prog_9_method_29_code
def yX7_findShort : MethodName := ⟨RX7, "findShort", "(I)Z"⟩
abbrev cX7_about : ByteArray := prog_9_method_30_code
def yX7_about : MethodName := ⟨RX7, "about", "(II)J"⟩
abbrev cX7_prime : ByteArray := prog_9_method_31_code
def yX7_prime : MethodName := ⟨RX7, "prime", "(I)J"⟩
abbrev cX7_modulo : ByteArray := prog_9_method_32_code
def yX7_modulo : MethodName := ⟨RX7, "modulo", "(JJ)J"⟩
abbrev cX7_inverse : ByteArray := prog_9_method_33_code
def yX7_inverse : MethodName := ⟨RX7, "inverse", "(JJ)J"⟩
abbrev cX7_joins : ByteArray := prog_9_method_34_code
def yX7_joins : MethodName := ⟨RX7, "joins", "(IJ)Z"⟩
abbrev cX7_rank : ByteArray := prog_9_method_35_code
def yX7_rank : MethodName := ⟨RX7, "rank", "(IJ)I"⟩
abbrev cX7_isPerfect : ByteArray := prog_9_method_36_code
def yX7_isPerfect : MethodName := ⟨RX7, "isPerfect", "(I)Z"⟩
abbrev cX7_reduce : ByteArray := prog_9_method_37_code
def yX7_reduce : MethodName := ⟨RX7, "reduce", "(I)I"⟩
abbrev cX7_keepWay : ByteArray := prog_9_method_38_code
def yX7_keepWay : MethodName := ⟨RX7, "keepWay", "(I)V"⟩
abbrev cX7_shortens : ByteArray := prog_9_method_39_code
def yX7_shortens : MethodName := ⟨RX7, "shortens", "(I)Z"⟩
abbrev cX7_change : ByteArray := prog_9_method_40_code
def yX7_change : MethodName := ⟨RX7, "change", "(III)V"⟩
abbrev cX7_order : ByteArray := prog_9_method_41_code
def yX7_order : MethodName := ⟨RX7, "order", "(I)V"⟩
abbrev cX7_search : ByteArray := prog_9_method_42_code
def yX7_search : MethodName := ⟨RX7, "search", "(IIZ)I"⟩
abbrev cX7_meets : ByteArray := prog_9_method_43_code
def yX7_meets : MethodName := ⟨RX7, "meets", "(III)Z"⟩
abbrev cX7_same : ByteArray := prog_9_method_44_code
def yX7_same : MethodName := ⟨RX7, "same", "(II)I"⟩
abbrev cX7_way : ByteArray := prog_9_method_45_code
def yX7_way : MethodName := ⟨RX7, "way", "(II)I"⟩
abbrev cX7_wayWorth : ByteArray := prog_9_method_46_code
def yX7_wayWorth : MethodName := ⟨RX7, "wayWorth", "()J"⟩
abbrev cX7_dual : ByteArray := prog_9_method_47_code
def yX7_dual : MethodName := ⟨RX7, "dual", "(I)I"⟩
abbrev cX7_sum : ByteArray := prog_9_method_48_code
def yX7_sum : MethodName := ⟨RX7, "sum", "(II)I"⟩
abbrev cX7_scale : ByteArray := prog_9_method_49_code
def yX7_scale : MethodName := ⟨RX7, "scale", "(II)I"⟩
abbrev cX7_within : ByteArray := prog_9_method_50_code
def yX7_within : MethodName := ⟨RX7, "within", "(I)I"⟩
abbrev cX7_compare : ByteArray := prog_9_method_51_code
def yX7_compare : MethodName := ⟨RX7, "compare", "(JJJJ)I"⟩
abbrev cX7_power : ByteArray := prog_9_method_52_code
def yX7_power : MethodName := ⟨RX7, "power", "(JI)J"⟩
abbrev cX7_denser : ByteArray := prog_9_method_53_code
def yX7_denser : MethodName := ⟨RX7, "denser", "(II)I"⟩
abbrev cX7_down : ByteArray := prog_9_method_54_code
def yX7_down : MethodName := ⟨RX7, "down", "(JJ)J"⟩
abbrev cX7_offSize : ByteArray := prog_9_method_55_code
def yX7_offSize : MethodName := ⟨RX7, "offSize", "(II)J"⟩
abbrev cX7_nearest : ByteArray := prog_9_method_56_code
def yX7_nearest : MethodName := ⟨RX7, "nearest", "(IIIIII)I"⟩
abbrev cX7_told : ByteArray := prog_9_method_57_code
def yX7_told : MethodName := ⟨RX7, "told", "(I)I"⟩
def RJ13 : String := "java/lang/Long"
abbrev cJ13_compare_74951 : ByteArray := prog_10_method_42_code
def yJ13_compare_74951 : MethodName := ⟨RJ13, "compare", "(JJ)I"⟩
def RJ9 : String := "java/lang/Math"
abbrev cJ9_floorDiv_f86c9 : ByteArray := prog_11_method_49_code
def yJ9_floorDiv_f86c9 : MethodName := ⟨RJ9, "floorDiv", "(JJ)J"⟩
abbrev cJ9_floorMod_f86c9 : ByteArray := prog_11_method_52_code
def yJ9_floorMod_f86c9 : MethodName := ⟨RJ9, "floorMod", "(JJ)J"⟩
abbrev cJ9_abs_067f4 : ByteArray := prog_11_method_61_code
def yJ9_abs_067f4 : MethodName := ⟨RJ9, "abs", "(J)J"⟩
abbrev cJ9_max_7cf53 : ByteArray := prog_11_method_65_code
def yJ9_max_7cf53 : MethodName := ⟨RJ9, "max", "(II)I"⟩
abbrev cJ9_max_f86c9 : ByteArray := prog_11_method_66_code
def yJ9_max_f86c9 : MethodName := ⟨RJ9, "max", "(JJ)J"⟩
abbrev cJ9_min_7cf53 : ByteArray := prog_11_method_69_code
def yJ9_min_7cf53 : MethodName := ⟨RJ9, "min", "(II)I"⟩
abbrev cJ9_min_f86c9 : ByteArray := prog_11_method_70_code
def yJ9_min_f86c9 : MethodName := ⟨RJ9, "min", "(JJ)J"⟩
def RJ10 : String := "java/lang/System"
def RL : String := "SphereBenchLaw"
abbrev cL_law : ByteArray := code
def yL_law : MethodName := ⟨RL, "law", "([I)Z"⟩
abbrev vwCl : List vw_C := [(RX0, TX0, 5), (RX1, TX1, 2), (RX2, TX2, 13), (RX3, TX3, 4), (RX4, TX4, 5), (RX5, TX5, 11), (RX6, TX6, 10), (RX7, TX7, 26)]
