-- ===== PART A: goes FIRST, ahead of the names: the tables' words, and 'selects' of the private methods out of them =====
/-- a private method of a class that the tables say can be made, by its rows of tables_1 -/
def lw_okq (q : MethodName × Nat) : Prop := (q.1.cls ≠ "java/lang/invoke/MethodHandle" ∧ q.1.cls ≠ "java/lang/invoke/VarHandle") ∧ Cond.instantiable q.1.cls q.2 ∈ tables_1 ∧ Cond.privateMethod q.1 ∈ tables_1 ∧ Cond.instanceMethod q.1 ∈ tables_1
theorem lw_p0 : lw_okq (⟨"NineReaders$Book", "clear", "()V"⟩, 18) := ⟨⟨by decide +kernel, by decide +kernel⟩, List.mem_of_getElem? (i := 135) (by decide +kernel), List.mem_of_getElem? (i := 143) (by decide +kernel), List.mem_of_getElem? (i := 144) (by decide +kernel)⟩
theorem lw_p1 : lw_okq (⟨"NineReaders$Scan", "nextWordOrNumber", "()V"⟩, 11) := ⟨⟨by decide +kernel, by decide +kernel⟩, List.mem_of_getElem? (i := 34) (by decide +kernel), List.mem_of_getElem? (i := 643) (by decide +kernel), List.mem_of_getElem? (i := 644) (by decide +kernel)⟩
theorem lw_p2 : lw_okq (⟨"NineReaders$Book", "readChap", "(LNineReaders$Scan;)Z"⟩, 18) := ⟨⟨by decide +kernel, by decide +kernel⟩, List.mem_of_getElem? (i := 135) (by decide +kernel), List.mem_of_getElem? (i := 651) (by decide +kernel), List.mem_of_getElem? (i := 652) (by decide +kernel)⟩
theorem lw_p3 : lw_okq (⟨"NineReaders$Book", "takeNewName", "(LNineReaders$Scan;)Z"⟩, 18) := ⟨⟨by decide +kernel, by decide +kernel⟩, List.mem_of_getElem? (i := 135) (by decide +kernel), List.mem_of_getElem? (i := 660) (by decide +kernel), List.mem_of_getElem? (i := 661) (by decide +kernel)⟩
theorem lw_p4 : lw_okq (⟨"NineReaders$Book", "readLeanings", "(LNineReaders$Scan;I)Z"⟩, 18) := ⟨⟨by decide +kernel, by decide +kernel⟩, List.mem_of_getElem? (i := 135) (by decide +kernel), List.mem_of_getElem? (i := 684) (by decide +kernel), List.mem_of_getElem? (i := 685) (by decide +kernel)⟩
theorem lw_p5 : lw_okq (⟨"NineReaders$Book", "readReader", "(LNineReaders$Scan;)Z"⟩, 18) := ⟨⟨by decide +kernel, by decide +kernel⟩, List.mem_of_getElem? (i := 135) (by decide +kernel), List.mem_of_getElem? (i := 693) (by decide +kernel), List.mem_of_getElem? (i := 694) (by decide +kernel)⟩
theorem lw_p6 : lw_okq (⟨"NineReaders$Book", "readSpeed", "(LNineReaders$Scan;)Z"⟩, 18) := ⟨⟨by decide +kernel, by decide +kernel⟩, List.mem_of_getElem? (i := 135) (by decide +kernel), List.mem_of_getElem? (i := 700) (by decide +kernel), List.mem_of_getElem? (i := 701) (by decide +kernel)⟩
theorem lw_p7 : lw_okq (⟨"NineReaders$Book", "readAgain", "(LNineReaders$Scan;)Z"⟩, 18) := ⟨⟨by decide +kernel, by decide +kernel⟩, List.mem_of_getElem? (i := 135) (by decide +kernel), List.mem_of_getElem? (i := 704) (by decide +kernel), List.mem_of_getElem? (i := 705) (by decide +kernel)⟩
theorem lw_p8 : lw_okq (⟨"NineReaders$Plan", "readAct", "(LNineReaders$Scan;LNineReaders$Book;)Z"⟩, 5) := ⟨⟨by decide +kernel, by decide +kernel⟩, List.mem_of_getElem? (i := 238) (by decide +kernel), List.mem_of_getElem? (i := 741) (by decide +kernel), List.mem_of_getElem? (i := 742) (by decide +kernel)⟩
theorem lw_p9 : lw_okq (⟨"NineReaders$Plan", "readReading", "(LNineReaders$Scan;LNineReaders$Book;I)Z"⟩, 5) := ⟨⟨by decide +kernel, by decide +kernel⟩, List.mem_of_getElem? (i := 238) (by decide +kernel), List.mem_of_getElem? (i := 748) (by decide +kernel), List.mem_of_getElem? (i := 749) (by decide +kernel)⟩
theorem lw_p10 : lw_okq (⟨"NineReaders$Plan", "readTelling", "(LNineReaders$Scan;LNineReaders$Book;I)Z"⟩, 5) := ⟨⟨by decide +kernel, by decide +kernel⟩, List.mem_of_getElem? (i := 238) (by decide +kernel), List.mem_of_getElem? (i := 762) (by decide +kernel), List.mem_of_getElem? (i := 763) (by decide +kernel)⟩
theorem lw_p11 : lw_okq (⟨"NineReaders$Maker", "addParts", "(I)V"⟩, 5) := ⟨⟨by decide +kernel, by decide +kernel⟩, List.mem_of_getElem? (i := 354) (by decide +kernel), List.mem_of_getElem? (i := 790) (by decide +kernel), List.mem_of_getElem? (i := 791) (by decide +kernel)⟩
theorem lw_p12 : lw_okq (⟨"NineReaders$Maker", "findParts", "(I)V"⟩, 5) := ⟨⟨by decide +kernel, by decide +kernel⟩, List.mem_of_getElem? (i := 354) (by decide +kernel), List.mem_of_getElem? (i := 794) (by decide +kernel), List.mem_of_getElem? (i := 795) (by decide +kernel)⟩
theorem lw_p13 : lw_okq (⟨"NineReaders$Maker", "join", "(II)V"⟩, 5) := ⟨⟨by decide +kernel, by decide +kernel⟩, List.mem_of_getElem? (i := 354) (by decide +kernel), List.mem_of_getElem? (i := 798) (by decide +kernel), List.mem_of_getElem? (i := 799) (by decide +kernel)⟩
theorem lw_p14 : lw_okq (⟨"NineReaders$Maker", "mostLeft", "(I)I"⟩, 5) := ⟨⟨by decide +kernel, by decide +kernel⟩, List.mem_of_getElem? (i := 354) (by decide +kernel), List.mem_of_getElem? (i := 805) (by decide +kernel), List.mem_of_getElem? (i := 806) (by decide +kernel)⟩
theorem lw_p15 : lw_okq (⟨"NineReaders$Maker", "readPart", "(II)V"⟩, 5) := ⟨⟨by decide +kernel, by decide +kernel⟩, List.mem_of_getElem? (i := 354) (by decide +kernel), List.mem_of_getElem? (i := 809) (by decide +kernel), List.mem_of_getElem? (i := 810) (by decide +kernel)⟩
def lw_privs_1 : List (MethodName × Nat) := [(⟨"NineReaders$Book", "clear", "()V"⟩, 18), (⟨"NineReaders$Scan", "nextWordOrNumber", "()V"⟩, 11), (⟨"NineReaders$Book", "readChap", "(LNineReaders$Scan;)Z"⟩, 18), (⟨"NineReaders$Book", "takeNewName", "(LNineReaders$Scan;)Z"⟩, 18), (⟨"NineReaders$Book", "readLeanings", "(LNineReaders$Scan;I)Z"⟩, 18), (⟨"NineReaders$Book", "readReader", "(LNineReaders$Scan;)Z"⟩, 18), (⟨"NineReaders$Book", "readSpeed", "(LNineReaders$Scan;)Z"⟩, 18), (⟨"NineReaders$Book", "readAgain", "(LNineReaders$Scan;)Z"⟩, 18), (⟨"NineReaders$Plan", "readAct", "(LNineReaders$Scan;LNineReaders$Book;)Z"⟩, 5), (⟨"NineReaders$Plan", "readReading", "(LNineReaders$Scan;LNineReaders$Book;I)Z"⟩, 5), (⟨"NineReaders$Plan", "readTelling", "(LNineReaders$Scan;LNineReaders$Book;I)Z"⟩, 5), (⟨"NineReaders$Maker", "addParts", "(I)V"⟩, 5), (⟨"NineReaders$Maker", "findParts", "(I)V"⟩, 5), (⟨"NineReaders$Maker", "join", "(II)V"⟩, 5), (⟨"NineReaders$Maker", "mostLeft", "(I)I"⟩, 5), (⟨"NineReaders$Maker", "readPart", "(II)V"⟩, 5)]
theorem lw_r1 : ∀ q ∈ lw_privs_1, lw_okq q := List.forall_mem_cons.mpr ⟨lw_p0, List.forall_mem_cons.mpr ⟨lw_p1, List.forall_mem_cons.mpr ⟨lw_p2, List.forall_mem_cons.mpr ⟨lw_p3, List.forall_mem_cons.mpr ⟨lw_p4, List.forall_mem_cons.mpr ⟨lw_p5, List.forall_mem_cons.mpr ⟨lw_p6, List.forall_mem_cons.mpr ⟨lw_p7, List.forall_mem_cons.mpr ⟨lw_p8, List.forall_mem_cons.mpr ⟨lw_p9, List.forall_mem_cons.mpr ⟨lw_p10, List.forall_mem_cons.mpr ⟨lw_p11, List.forall_mem_cons.mpr ⟨lw_p12, List.forall_mem_cons.mpr ⟨lw_p13, List.forall_mem_cons.mpr ⟨lw_p14, List.forall_mem_cons.mpr ⟨lw_p15, fun _ h => absurd h List.not_mem_nil⟩⟩⟩⟩⟩⟩⟩⟩⟩⟩⟩⟩⟩⟩⟩⟩
theorem lw_p16 : lw_okq (⟨"NineReaders$Maker", "tryAct", "(IIII)Z"⟩, 5) := ⟨⟨by decide +kernel, by decide +kernel⟩, List.mem_of_getElem? (i := 354) (by decide +kernel), List.mem_of_getElem? (i := 813) (by decide +kernel), List.mem_of_getElem? (i := 814) (by decide +kernel)⟩
theorem lw_p17 : lw_okq (⟨"NineReaders$Minds", "hear", "(IIII)V"⟩, 10) := ⟨⟨by decide +kernel, by decide +kernel⟩, List.mem_of_getElem? (i := 301) (by decide +kernel), List.mem_of_getElem? (i := 857) (by decide +kernel), List.mem_of_getElem? (i := 858) (by decide +kernel)⟩
theorem lw_p18 : lw_okq (⟨"NineReaders$Maker", "addRows", "()V"⟩, 5) := ⟨⟨by decide +kernel, by decide +kernel⟩, List.mem_of_getElem? (i := 354) (by decide +kernel), List.mem_of_getElem? (i := 875) (by decide +kernel), List.mem_of_getElem? (i := 876) (by decide +kernel)⟩
theorem lw_p19 : lw_okq (⟨"NineReaders$Maker", "addSecondReadings", "(I)V"⟩, 5) := ⟨⟨by decide +kernel, by decide +kernel⟩, List.mem_of_getElem? (i := 354) (by decide +kernel), List.mem_of_getElem? (i := 879) (by decide +kernel), List.mem_of_getElem? (i := 880) (by decide +kernel)⟩
theorem lw_p20 : lw_okq (⟨"NineReaders$Maker", "mostWorth", "(I)I"⟩, 5) := ⟨⟨by decide +kernel, by decide +kernel⟩, List.mem_of_getElem? (i := 354) (by decide +kernel), List.mem_of_getElem? (i := 883) (by decide +kernel), List.mem_of_getElem? (i := 884) (by decide +kernel)⟩
theorem lw_p21 : lw_okq (⟨"NineReaders$Maker", "readersOf", "(I)I"⟩, 5) := ⟨⟨by decide +kernel, by decide +kernel⟩, List.mem_of_getElem? (i := 354) (by decide +kernel), List.mem_of_getElem? (i := 887) (by decide +kernel), List.mem_of_getElem? (i := 888) (by decide +kernel)⟩
theorem lw_p22 : lw_okq (⟨"NineReaders$Maker", "addChains", "(I)V"⟩, 5) := ⟨⟨by decide +kernel, by decide +kernel⟩, List.mem_of_getElem? (i := 354) (by decide +kernel), List.mem_of_getElem? (i := 891) (by decide +kernel), List.mem_of_getElem? (i := 892) (by decide +kernel)⟩
theorem lw_p23 : lw_okq (⟨"NineReaders$Maker", "readerOf", "(I)I"⟩, 5) := ⟨⟨by decide +kernel, by decide +kernel⟩, List.mem_of_getElem? (i := 354) (by decide +kernel), List.mem_of_getElem? (i := 895) (by decide +kernel), List.mem_of_getElem? (i := 896) (by decide +kernel)⟩
theorem lw_p24 : lw_okq (⟨"NineReaders$Maker", "addRounds", "(I)V"⟩, 5) := ⟨⟨by decide +kernel, by decide +kernel⟩, List.mem_of_getElem? (i := 354) (by decide +kernel), List.mem_of_getElem? (i := 899) (by decide +kernel), List.mem_of_getElem? (i := 900) (by decide +kernel)⟩
theorem lw_p25 : lw_okq (⟨"NineReaders$Maker", "draw", "(I)I"⟩, 5) := ⟨⟨by decide +kernel, by decide +kernel⟩, List.mem_of_getElem? (i := 354) (by decide +kernel), List.mem_of_getElem? (i := 913) (by decide +kernel), List.mem_of_getElem? (i := 914) (by decide +kernel)⟩
theorem lw_p26 : lw_okq (⟨"NineReaders", "runOnce", "()V"⟩, 20) := ⟨⟨by decide +kernel, by decide +kernel⟩, List.mem_of_getElem? (i := 26) (by decide +kernel), List.mem_of_getElem? (i := 922) (by decide +kernel), List.mem_of_getElem? (i := 923) (by decide +kernel)⟩
theorem lw_p27 : lw_okq (⟨"NineReaders$Share", "tryFrom", "(II)V"⟩, 10) := ⟨⟨by decide +kernel, by decide +kernel⟩, List.mem_of_getElem? (i := 412) (by decide +kernel), List.mem_of_getElem? (i := 983) (by decide +kernel), List.mem_of_getElem? (i := 984) (by decide +kernel)⟩
theorem lw_p28 : lw_okq (⟨"NineReaders$Share", "mostOfRest", "(I)I"⟩, 10) := ⟨⟨by decide +kernel, by decide +kernel⟩, List.mem_of_getElem? (i := 412) (by decide +kernel), List.mem_of_getElem? (i := 993) (by decide +kernel), List.mem_of_getElem? (i := 994) (by decide +kernel)⟩
theorem lw_p29 : lw_okq (⟨"NineReaders$Share", "worthIfReadBy", "(II)I"⟩, 10) := ⟨⟨by decide +kernel, by decide +kernel⟩, List.mem_of_getElem? (i := 412) (by decide +kernel), List.mem_of_getElem? (i := 998) (by decide +kernel), List.mem_of_getElem? (i := 999) (by decide +kernel)⟩
theorem lw_p30 : lw_okq (⟨"NineReaders$Cuts", "chooseEnds", "(LNineReaders$Book;III)V"⟩, 5) := ⟨⟨by decide +kernel, by decide +kernel⟩, List.mem_of_getElem? (i := 451) (by decide +kernel), List.mem_of_getElem? (i := 1020) (by decide +kernel), List.mem_of_getElem? (i := 1021) (by decide +kernel)⟩
theorem lw_p31 : lw_okq (⟨"NineReaders$Row", "tryFrom", "(IIII)V"⟩, 7) := ⟨⟨by decide +kernel, by decide +kernel⟩, List.mem_of_getElem? (i := 477) (by decide +kernel), List.mem_of_getElem? (i := 1065) (by decide +kernel), List.mem_of_getElem? (i := 1066) (by decide +kernel)⟩
def lw_privs_2 : List (MethodName × Nat) := [(⟨"NineReaders$Maker", "tryAct", "(IIII)Z"⟩, 5), (⟨"NineReaders$Minds", "hear", "(IIII)V"⟩, 10), (⟨"NineReaders$Maker", "addRows", "()V"⟩, 5), (⟨"NineReaders$Maker", "addSecondReadings", "(I)V"⟩, 5), (⟨"NineReaders$Maker", "mostWorth", "(I)I"⟩, 5), (⟨"NineReaders$Maker", "readersOf", "(I)I"⟩, 5), (⟨"NineReaders$Maker", "addChains", "(I)V"⟩, 5), (⟨"NineReaders$Maker", "readerOf", "(I)I"⟩, 5), (⟨"NineReaders$Maker", "addRounds", "(I)V"⟩, 5), (⟨"NineReaders$Maker", "draw", "(I)I"⟩, 5), (⟨"NineReaders", "runOnce", "()V"⟩, 20), (⟨"NineReaders$Share", "tryFrom", "(II)V"⟩, 10), (⟨"NineReaders$Share", "mostOfRest", "(I)I"⟩, 10), (⟨"NineReaders$Share", "worthIfReadBy", "(II)I"⟩, 10), (⟨"NineReaders$Cuts", "chooseEnds", "(LNineReaders$Book;III)V"⟩, 5), (⟨"NineReaders$Row", "tryFrom", "(IIII)V"⟩, 7)]
theorem lw_r2 : ∀ q ∈ lw_privs_2, lw_okq q := List.forall_mem_cons.mpr ⟨lw_p16, List.forall_mem_cons.mpr ⟨lw_p17, List.forall_mem_cons.mpr ⟨lw_p18, List.forall_mem_cons.mpr ⟨lw_p19, List.forall_mem_cons.mpr ⟨lw_p20, List.forall_mem_cons.mpr ⟨lw_p21, List.forall_mem_cons.mpr ⟨lw_p22, List.forall_mem_cons.mpr ⟨lw_p23, List.forall_mem_cons.mpr ⟨lw_p24, List.forall_mem_cons.mpr ⟨lw_p25, List.forall_mem_cons.mpr ⟨lw_p26, List.forall_mem_cons.mpr ⟨lw_p27, List.forall_mem_cons.mpr ⟨lw_p28, List.forall_mem_cons.mpr ⟨lw_p29, List.forall_mem_cons.mpr ⟨lw_p30, List.forall_mem_cons.mpr ⟨lw_p31, fun _ h => absurd h List.not_mem_nil⟩⟩⟩⟩⟩⟩⟩⟩⟩⟩⟩⟩⟩⟩⟩⟩
theorem lw_p32 : lw_okq (⟨"NineReaders$Choice", "tryLeaving", "(IIIII)V"⟩, 10) := ⟨⟨by decide +kernel, by decide +kernel⟩, List.mem_of_getElem? (i := 507) (by decide +kernel), List.mem_of_getElem? (i := 1094) (by decide +kernel), List.mem_of_getElem? (i := 1095) (by decide +kernel)⟩
theorem lw_p33 : lw_okq (⟨"NineReaders$Minds", "offerExtra", "(II)V"⟩, 10) := ⟨⟨by decide +kernel, by decide +kernel⟩, List.mem_of_getElem? (i := 301) (by decide +kernel), List.mem_of_getElem? (i := 1106) (by decide +kernel), List.mem_of_getElem? (i := 1107) (by decide +kernel)⟩
theorem lw_p34 : lw_okq (⟨"NineReaders$Choice", "readQuestions", "(LNineReaders$Scan;II)Z"⟩, 10) := ⟨⟨by decide +kernel, by decide +kernel⟩, List.mem_of_getElem? (i := 507) (by decide +kernel), List.mem_of_getElem? (i := 1118) (by decide +kernel), List.mem_of_getElem? (i := 1119) (by decide +kernel)⟩
theorem lw_p35 : lw_okq (⟨"NineReaders$Illness", "tryAct", "(LNineReaders$Plan;II)Z"⟩, 7) := ⟨⟨by decide +kernel, by decide +kernel⟩, List.mem_of_getElem? (i := 378) (by decide +kernel), List.mem_of_getElem? (i := 1149) (by decide +kernel), List.mem_of_getElem? (i := 1150) (by decide +kernel)⟩
theorem lw_p36 : lw_okq (⟨"NineReaders$Illness", "offerHelp", "(I)V"⟩, 7) := ⟨⟨by decide +kernel, by decide +kernel⟩, List.mem_of_getElem? (i := 378) (by decide +kernel), List.mem_of_getElem? (i := 1156) (by decide +kernel), List.mem_of_getElem? (i := 1157) (by decide +kernel)⟩
theorem lw_p37 : lw_okq (⟨"NineReaders$Illness", "readMissed", "(I)V"⟩, 7) := ⟨⟨by decide +kernel, by decide +kernel⟩, List.mem_of_getElem? (i := 378) (by decide +kernel), List.mem_of_getElem? (i := 1161) (by decide +kernel), List.mem_of_getElem? (i := 1162) (by decide +kernel)⟩
theorem lw_p38 : lw_okq (⟨"NineReaders$Sentence", "readCond", "(LNineReaders$Scan;LNineReaders$Book;I)Z"⟩, 6) := ⟨⟨by decide +kernel, by decide +kernel⟩, List.mem_of_getElem? (i := 275) (by decide +kernel), List.mem_of_getElem? (i := 1174) (by decide +kernel), List.mem_of_getElem? (i := 1175) (by decide +kernel)⟩
theorem lw_p39 : lw_okq (⟨"NineReaders$Sentence", "readOne", "(LNineReaders$Scan;LNineReaders$Book;I)Z"⟩, 6) := ⟨⟨by decide +kernel, by decide +kernel⟩, List.mem_of_getElem? (i := 275) (by decide +kernel), List.mem_of_getElem? (i := 1178) (by decide +kernel), List.mem_of_getElem? (i := 1179) (by decide +kernel)⟩
theorem lw_p40 : lw_okq (⟨"NineReaders$Sentence", "add", "(IIII)V"⟩, 6) := ⟨⟨by decide +kernel, by decide +kernel⟩, List.mem_of_getElem? (i := 275) (by decide +kernel), List.mem_of_getElem? (i := 1185) (by decide +kernel), List.mem_of_getElem? (i := 1186) (by decide +kernel)⟩
theorem lw_p41 : lw_okq (⟨"NineReaders$Sentence", "readAsking", "(LNineReaders$Scan;LNineReaders$Book;I)Z"⟩, 6) := ⟨⟨by decide +kernel, by decide +kernel⟩, List.mem_of_getElem? (i := 275) (by decide +kernel), List.mem_of_getElem? (i := 1189) (by decide +kernel), List.mem_of_getElem? (i := 1190) (by decide +kernel)⟩
theorem lw_p42 : lw_okq (⟨"NineReaders$Sentence", "isSo", "(LNineReaders$Minds;II)Z"⟩, 6) := ⟨⟨by decide +kernel, by decide +kernel⟩, List.mem_of_getElem? (i := 275) (by decide +kernel), List.mem_of_getElem? (i := 1206) (by decide +kernel), List.mem_of_getElem? (i := 1207) (by decide +kernel)⟩
theorem lw_p43 : lw_okq (⟨"NineReaders$Sentence", "compares", "(II)Z"⟩, 6) := ⟨⟨by decide +kernel, by decide +kernel⟩, List.mem_of_getElem? (i := 275) (by decide +kernel), List.mem_of_getElem? (i := 1210) (by decide +kernel), List.mem_of_getElem? (i := 1211) (by decide +kernel)⟩
theorem lw_p44 : lw_okq (⟨"java/lang/Throwable", "fillInStackTrace", "(I)Ljava/lang/Throwable;"⟩, 6) := ⟨⟨by decide +kernel, by decide +kernel⟩, List.mem_of_getElem? (i := 1287) (by decide +kernel), List.mem_of_getElem? (i := 1285) (by decide +kernel), List.mem_of_getElem? (i := 1286) (by decide +kernel)⟩
theorem lw_p45 : lw_okq (⟨"NineReadersModel", "come", "(I)V"⟩, 63) := ⟨⟨by decide +kernel, by decide +kernel⟩, List.mem_of_getElem? (i := 1330) (by decide +kernel), List.mem_of_getElem? (i := 1535) (by decide +kernel), List.mem_of_getElem? (i := 1536) (by decide +kernel)⟩
theorem lw_p46 : lw_okq (⟨"NineReadersModel", "begin", "(I)V"⟩, 63) := ⟨⟨by decide +kernel, by decide +kernel⟩, List.mem_of_getElem? (i := 1330) (by decide +kernel), List.mem_of_getElem? (i := 1547) (by decide +kernel), List.mem_of_getElem? (i := 1548) (by decide +kernel)⟩
theorem lw_p47 : lw_okq (⟨"NineReadersModel", "lay", "()V"⟩, 63) := ⟨⟨by decide +kernel, by decide +kernel⟩, List.mem_of_getElem? (i := 1330) (by decide +kernel), List.mem_of_getElem? (i := 1551) (by decide +kernel), List.mem_of_getElem? (i := 1552) (by decide +kernel)⟩
def lw_privs_3 : List (MethodName × Nat) := [(⟨"NineReaders$Choice", "tryLeaving", "(IIIII)V"⟩, 10), (⟨"NineReaders$Minds", "offerExtra", "(II)V"⟩, 10), (⟨"NineReaders$Choice", "readQuestions", "(LNineReaders$Scan;II)Z"⟩, 10), (⟨"NineReaders$Illness", "tryAct", "(LNineReaders$Plan;II)Z"⟩, 7), (⟨"NineReaders$Illness", "offerHelp", "(I)V"⟩, 7), (⟨"NineReaders$Illness", "readMissed", "(I)V"⟩, 7), (⟨"NineReaders$Sentence", "readCond", "(LNineReaders$Scan;LNineReaders$Book;I)Z"⟩, 6), (⟨"NineReaders$Sentence", "readOne", "(LNineReaders$Scan;LNineReaders$Book;I)Z"⟩, 6), (⟨"NineReaders$Sentence", "add", "(IIII)V"⟩, 6), (⟨"NineReaders$Sentence", "readAsking", "(LNineReaders$Scan;LNineReaders$Book;I)Z"⟩, 6), (⟨"NineReaders$Sentence", "isSo", "(LNineReaders$Minds;II)Z"⟩, 6), (⟨"NineReaders$Sentence", "compares", "(II)Z"⟩, 6), (⟨"java/lang/Throwable", "fillInStackTrace", "(I)Ljava/lang/Throwable;"⟩, 6), (⟨"NineReadersModel", "come", "(I)V"⟩, 63), (⟨"NineReadersModel", "begin", "(I)V"⟩, 63), (⟨"NineReadersModel", "lay", "()V"⟩, 63)]
theorem lw_r3 : ∀ q ∈ lw_privs_3, lw_okq q := List.forall_mem_cons.mpr ⟨lw_p32, List.forall_mem_cons.mpr ⟨lw_p33, List.forall_mem_cons.mpr ⟨lw_p34, List.forall_mem_cons.mpr ⟨lw_p35, List.forall_mem_cons.mpr ⟨lw_p36, List.forall_mem_cons.mpr ⟨lw_p37, List.forall_mem_cons.mpr ⟨lw_p38, List.forall_mem_cons.mpr ⟨lw_p39, List.forall_mem_cons.mpr ⟨lw_p40, List.forall_mem_cons.mpr ⟨lw_p41, List.forall_mem_cons.mpr ⟨lw_p42, List.forall_mem_cons.mpr ⟨lw_p43, List.forall_mem_cons.mpr ⟨lw_p44, List.forall_mem_cons.mpr ⟨lw_p45, List.forall_mem_cons.mpr ⟨lw_p46, List.forall_mem_cons.mpr ⟨lw_p47, fun _ h => absurd h List.not_mem_nil⟩⟩⟩⟩⟩⟩⟩⟩⟩⟩⟩⟩⟩⟩⟩⟩
theorem lw_p48 : lw_okq (⟨"NineReadersModel", "take", "()I"⟩, 63) := ⟨⟨by decide +kernel, by decide +kernel⟩, List.mem_of_getElem? (i := 1330) (by decide +kernel), List.mem_of_getElem? (i := 1555) (by decide +kernel), List.mem_of_getElem? (i := 1556) (by decide +kernel)⟩
theorem lw_p49 : lw_okq (⟨"NineReadersModel", "go", "()V"⟩, 63) := ⟨⟨by decide +kernel, by decide +kernel⟩, List.mem_of_getElem? (i := 1330) (by decide +kernel), List.mem_of_getElem? (i := 1559) (by decide +kernel), List.mem_of_getElem? (i := 1560) (by decide +kernel)⟩
theorem lw_p50 : lw_okq (⟨"NineReadersModel", "byteAt", "(I)I"⟩, 63) := ⟨⟨by decide +kernel, by decide +kernel⟩, List.mem_of_getElem? (i := 1330) (by decide +kernel), List.mem_of_getElem? (i := 1569) (by decide +kernel), List.mem_of_getElem? (i := 1570) (by decide +kernel)⟩
theorem lw_p51 : lw_okq (⟨"NineReadersModel", "readLine", "()Z"⟩, 63) := ⟨⟨by decide +kernel, by decide +kernel⟩, List.mem_of_getElem? (i := 1330) (by decide +kernel), List.mem_of_getElem? (i := 1575) (by decide +kernel), List.mem_of_getElem? (i := 1576) (by decide +kernel)⟩
theorem lw_p52 : lw_okq (⟨"NineReadersModel", "isWord", "(I)Z"⟩, 63) := ⟨⟨by decide +kernel, by decide +kernel⟩, List.mem_of_getElem? (i := 1330) (by decide +kernel), List.mem_of_getElem? (i := 1579) (by decide +kernel), List.mem_of_getElem? (i := 1580) (by decide +kernel)⟩
theorem lw_p53 : lw_okq (⟨"NineReadersModel", "bad", "(I)Z"⟩, 63) := ⟨⟨by decide +kernel, by decide +kernel⟩, List.mem_of_getElem? (i := 1330) (by decide +kernel), List.mem_of_getElem? (i := 1589) (by decide +kernel), List.mem_of_getElem? (i := 1590) (by decide +kernel)⟩
theorem lw_p54 : lw_okq (⟨"NineReadersModel", "readChap", "()Z"⟩, 63) := ⟨⟨by decide +kernel, by decide +kernel⟩, List.mem_of_getElem? (i := 1330) (by decide +kernel), List.mem_of_getElem? (i := 1593) (by decide +kernel), List.mem_of_getElem? (i := 1594) (by decide +kernel)⟩
theorem lw_p55 : lw_okq (⟨"NineReadersModel", "readNew", "(I)Z"⟩, 63) := ⟨⟨by decide +kernel, by decide +kernel⟩, List.mem_of_getElem? (i := 1330) (by decide +kernel), List.mem_of_getElem? (i := 1597) (by decide +kernel), List.mem_of_getElem? (i := 1598) (by decide +kernel)⟩
theorem lw_p56 : lw_okq (⟨"NineReadersModel", "isName", "()Z"⟩, 63) := ⟨⟨by decide +kernel, by decide +kernel⟩, List.mem_of_getElem? (i := 1330) (by decide +kernel), List.mem_of_getElem? (i := 1601) (by decide +kernel), List.mem_of_getElem? (i := 1602) (by decide +kernel)⟩
theorem lw_p57 : lw_okq (⟨"NineReadersModel", "findRead", "()I"⟩, 63) := ⟨⟨by decide +kernel, by decide +kernel⟩, List.mem_of_getElem? (i := 1330) (by decide +kernel), List.mem_of_getElem? (i := 1605) (by decide +kernel), List.mem_of_getElem? (i := 1606) (by decide +kernel)⟩
theorem lw_p58 : lw_okq (⟨"NineReadersModel", "readNumber", "(II)Z"⟩, 63) := ⟨⟨by decide +kernel, by decide +kernel⟩, List.mem_of_getElem? (i := 1330) (by decide +kernel), List.mem_of_getElem? (i := 1609) (by decide +kernel), List.mem_of_getElem? (i := 1610) (by decide +kernel)⟩
theorem lw_p59 : lw_okq (⟨"NineReadersModel", "readWho", "()Z"⟩, 63) := ⟨⟨by decide +kernel, by decide +kernel⟩, List.mem_of_getElem? (i := 1330) (by decide +kernel), List.mem_of_getElem? (i := 1616) (by decide +kernel), List.mem_of_getElem? (i := 1617) (by decide +kernel)⟩
theorem lw_p60 : lw_okq (⟨"NineReadersModel", "readEnd", "()Z"⟩, 63) := ⟨⟨by decide +kernel, by decide +kernel⟩, List.mem_of_getElem? (i := 1330) (by decide +kernel), List.mem_of_getElem? (i := 1620) (by decide +kernel), List.mem_of_getElem? (i := 1621) (by decide +kernel)⟩
theorem lw_p61 : lw_okq (⟨"NineReadersModel", "isSign", "(I)Z"⟩, 63) := ⟨⟨by decide +kernel, by decide +kernel⟩, List.mem_of_getElem? (i := 1330) (by decide +kernel), List.mem_of_getElem? (i := 1624) (by decide +kernel), List.mem_of_getElem? (i := 1625) (by decide +kernel)⟩
theorem lw_p62 : lw_okq (⟨"NineReadersModel", "isChap", "(I)Z"⟩, 63) := ⟨⟨by decide +kernel, by decide +kernel⟩, List.mem_of_getElem? (i := 1330) (by decide +kernel), List.mem_of_getElem? (i := 1639) (by decide +kernel), List.mem_of_getElem? (i := 1640) (by decide +kernel)⟩
theorem lw_p63 : lw_okq (⟨"NineReadersModel", "chaps", "()I"⟩, 63) := ⟨⟨by decide +kernel, by decide +kernel⟩, List.mem_of_getElem? (i := 1330) (by decide +kernel), List.mem_of_getElem? (i := 1643) (by decide +kernel), List.mem_of_getElem? (i := 1644) (by decide +kernel)⟩
def lw_privs_4 : List (MethodName × Nat) := [(⟨"NineReadersModel", "take", "()I"⟩, 63), (⟨"NineReadersModel", "go", "()V"⟩, 63), (⟨"NineReadersModel", "byteAt", "(I)I"⟩, 63), (⟨"NineReadersModel", "readLine", "()Z"⟩, 63), (⟨"NineReadersModel", "isWord", "(I)Z"⟩, 63), (⟨"NineReadersModel", "bad", "(I)Z"⟩, 63), (⟨"NineReadersModel", "readChap", "()Z"⟩, 63), (⟨"NineReadersModel", "readNew", "(I)Z"⟩, 63), (⟨"NineReadersModel", "isName", "()Z"⟩, 63), (⟨"NineReadersModel", "findRead", "()I"⟩, 63), (⟨"NineReadersModel", "readNumber", "(II)Z"⟩, 63), (⟨"NineReadersModel", "readWho", "()Z"⟩, 63), (⟨"NineReadersModel", "readEnd", "()Z"⟩, 63), (⟨"NineReadersModel", "isSign", "(I)Z"⟩, 63), (⟨"NineReadersModel", "isChap", "(I)Z"⟩, 63), (⟨"NineReadersModel", "chaps", "()I"⟩, 63)]
theorem lw_r4 : ∀ q ∈ lw_privs_4, lw_okq q := List.forall_mem_cons.mpr ⟨lw_p48, List.forall_mem_cons.mpr ⟨lw_p49, List.forall_mem_cons.mpr ⟨lw_p50, List.forall_mem_cons.mpr ⟨lw_p51, List.forall_mem_cons.mpr ⟨lw_p52, List.forall_mem_cons.mpr ⟨lw_p53, List.forall_mem_cons.mpr ⟨lw_p54, List.forall_mem_cons.mpr ⟨lw_p55, List.forall_mem_cons.mpr ⟨lw_p56, List.forall_mem_cons.mpr ⟨lw_p57, List.forall_mem_cons.mpr ⟨lw_p58, List.forall_mem_cons.mpr ⟨lw_p59, List.forall_mem_cons.mpr ⟨lw_p60, List.forall_mem_cons.mpr ⟨lw_p61, List.forall_mem_cons.mpr ⟨lw_p62, List.forall_mem_cons.mpr ⟨lw_p63, fun _ h => absurd h List.not_mem_nil⟩⟩⟩⟩⟩⟩⟩⟩⟩⟩⟩⟩⟩⟩⟩⟩
theorem lw_p64 : lw_okq (⟨"NineReadersModel", "refuse", "()I"⟩, 63) := ⟨⟨by decide +kernel, by decide +kernel⟩, List.mem_of_getElem? (i := 1330) (by decide +kernel), List.mem_of_getElem? (i := 1647) (by decide +kernel), List.mem_of_getElem? (i := 1648) (by decide +kernel)⟩
theorem lw_p65 : lw_okq (⟨"NineReadersModel", "chapOf", "(II)I"⟩, 63) := ⟨⟨by decide +kernel, by decide +kernel⟩, List.mem_of_getElem? (i := 1330) (by decide +kernel), List.mem_of_getElem? (i := 1651) (by decide +kernel), List.mem_of_getElem? (i := 1652) (by decide +kernel)⟩
theorem lw_p66 : lw_okq (⟨"NineReadersModel", "leanOf", "(II)I"⟩, 63) := ⟨⟨by decide +kernel, by decide +kernel⟩, List.mem_of_getElem? (i := 1330) (by decide +kernel), List.mem_of_getElem? (i := 1655) (by decide +kernel), List.mem_of_getElem? (i := 1656) (by decide +kernel)⟩
theorem lw_p67 : lw_okq (⟨"NineReadersModel", "isReader", "(I)Z"⟩, 63) := ⟨⟨by decide +kernel, by decide +kernel⟩, List.mem_of_getElem? (i := 1330) (by decide +kernel), List.mem_of_getElem? (i := 1667) (by decide +kernel), List.mem_of_getElem? (i := 1668) (by decide +kernel)⟩
theorem lw_p68 : lw_okq (⟨"NineReadersModel", "readers", "()I"⟩, 63) := ⟨⟨by decide +kernel, by decide +kernel⟩, List.mem_of_getElem? (i := 1330) (by decide +kernel), List.mem_of_getElem? (i := 1671) (by decide +kernel), List.mem_of_getElem? (i := 1672) (by decide +kernel)⟩
theorem lw_p69 : lw_okq (⟨"NineReadersModel", "readerOf", "(II)I"⟩, 63) := ⟨⟨by decide +kernel, by decide +kernel⟩, List.mem_of_getElem? (i := 1330) (by decide +kernel), List.mem_of_getElem? (i := 1675) (by decide +kernel), List.mem_of_getElem? (i := 1676) (by decide +kernel)⟩
theorem lw_p70 : lw_okq (⟨"NineReadersModel", "readAct", "()Z"⟩, 63) := ⟨⟨by decide +kernel, by decide +kernel⟩, List.mem_of_getElem? (i := 1330) (by decide +kernel), List.mem_of_getElem? (i := 1683) (by decide +kernel), List.mem_of_getElem? (i := 1684) (by decide +kernel)⟩
theorem lw_p71 : lw_okq (⟨"NineReadersModel", "named", "(II)I"⟩, 63) := ⟨⟨by decide +kernel, by decide +kernel⟩, List.mem_of_getElem? (i := 1330) (by decide +kernel), List.mem_of_getElem? (i := 1687) (by decide +kernel), List.mem_of_getElem? (i := 1688) (by decide +kernel)⟩
theorem lw_p72 : lw_okq (⟨"NineReadersModel", "readNamed", "(II)Z"⟩, 63) := ⟨⟨by decide +kernel, by decide +kernel⟩, List.mem_of_getElem? (i := 1330) (by decide +kernel), List.mem_of_getElem? (i := 1691) (by decide +kernel), List.mem_of_getElem? (i := 1692) (by decide +kernel)⟩
theorem lw_p73 : lw_okq (⟨"NineReadersModel", "addAct", "(IIII)Z"⟩, 63) := ⟨⟨by decide +kernel, by decide +kernel⟩, List.mem_of_getElem? (i := 1330) (by decide +kernel), List.mem_of_getElem? (i := 1695) (by decide +kernel), List.mem_of_getElem? (i := 1696) (by decide +kernel)⟩
theorem lw_p74 : lw_okq (⟨"NineReadersModel", "readListeners", "(I)Z"⟩, 63) := ⟨⟨by decide +kernel, by decide +kernel⟩, List.mem_of_getElem? (i := 1330) (by decide +kernel), List.mem_of_getElem? (i := 1699) (by decide +kernel), List.mem_of_getElem? (i := 1700) (by decide +kernel)⟩
theorem lw_p75 : lw_okq (⟨"NineReadersModel", "plans", "()I"⟩, 63) := ⟨⟨by decide +kernel, by decide +kernel⟩, List.mem_of_getElem? (i := 1330) (by decide +kernel), List.mem_of_getElem? (i := 1703) (by decide +kernel), List.mem_of_getElem? (i := 1704) (by decide +kernel)⟩
theorem lw_p76 : lw_okq (⟨"NineReadersModel", "night", "()V"⟩, 63) := ⟨⟨by decide +kernel, by decide +kernel⟩, List.mem_of_getElem? (i := 1330) (by decide +kernel), List.mem_of_getElem? (i := 1715) (by decide +kernel), List.mem_of_getElem? (i := 1716) (by decide +kernel)⟩
theorem lw_p77 : lw_okq (⟨"NineReadersModel", "dawn", "()V"⟩, 63) := ⟨⟨by decide +kernel, by decide +kernel⟩, List.mem_of_getElem? (i := 1330) (by decide +kernel), List.mem_of_getElem? (i := 1719) (by decide +kernel), List.mem_of_getElem? (i := 1720) (by decide +kernel)⟩
theorem lw_p78 : lw_okq (⟨"NineReadersModel", "wrong", "(IIII)I"⟩, 63) := ⟨⟨by decide +kernel, by decide +kernel⟩, List.mem_of_getElem? (i := 1330) (by decide +kernel), List.mem_of_getElem? (i := 1723) (by decide +kernel), List.mem_of_getElem? (i := 1724) (by decide +kernel)⟩
theorem lw_p79 : lw_okq (⟨"NineReadersModel", "timeToRead", "(II)I"⟩, 63) := ⟨⟨by decide +kernel, by decide +kernel⟩, List.mem_of_getElem? (i := 1330) (by decide +kernel), List.mem_of_getElem? (i := 1727) (by decide +kernel), List.mem_of_getElem? (i := 1728) (by decide +kernel)⟩
def lw_privs_5 : List (MethodName × Nat) := [(⟨"NineReadersModel", "refuse", "()I"⟩, 63), (⟨"NineReadersModel", "chapOf", "(II)I"⟩, 63), (⟨"NineReadersModel", "leanOf", "(II)I"⟩, 63), (⟨"NineReadersModel", "isReader", "(I)Z"⟩, 63), (⟨"NineReadersModel", "readers", "()I"⟩, 63), (⟨"NineReadersModel", "readerOf", "(II)I"⟩, 63), (⟨"NineReadersModel", "readAct", "()Z"⟩, 63), (⟨"NineReadersModel", "named", "(II)I"⟩, 63), (⟨"NineReadersModel", "readNamed", "(II)Z"⟩, 63), (⟨"NineReadersModel", "addAct", "(IIII)Z"⟩, 63), (⟨"NineReadersModel", "readListeners", "(I)Z"⟩, 63), (⟨"NineReadersModel", "plans", "()I"⟩, 63), (⟨"NineReadersModel", "night", "()V"⟩, 63), (⟨"NineReadersModel", "dawn", "()V"⟩, 63), (⟨"NineReadersModel", "wrong", "(IIII)I"⟩, 63), (⟨"NineReadersModel", "timeToRead", "(II)I"⟩, 63)]
theorem lw_r5 : ∀ q ∈ lw_privs_5, lw_okq q := List.forall_mem_cons.mpr ⟨lw_p64, List.forall_mem_cons.mpr ⟨lw_p65, List.forall_mem_cons.mpr ⟨lw_p66, List.forall_mem_cons.mpr ⟨lw_p67, List.forall_mem_cons.mpr ⟨lw_p68, List.forall_mem_cons.mpr ⟨lw_p69, List.forall_mem_cons.mpr ⟨lw_p70, List.forall_mem_cons.mpr ⟨lw_p71, List.forall_mem_cons.mpr ⟨lw_p72, List.forall_mem_cons.mpr ⟨lw_p73, List.forall_mem_cons.mpr ⟨lw_p74, List.forall_mem_cons.mpr ⟨lw_p75, List.forall_mem_cons.mpr ⟨lw_p76, List.forall_mem_cons.mpr ⟨lw_p77, List.forall_mem_cons.mpr ⟨lw_p78, List.forall_mem_cons.mpr ⟨lw_p79, fun _ h => absurd h List.not_mem_nil⟩⟩⟩⟩⟩⟩⟩⟩⟩⟩⟩⟩⟩⟩⟩⟩
theorem lw_p80 : lw_okq (⟨"NineReadersModel", "timeToTell", "(II)I"⟩, 63) := ⟨⟨by decide +kernel, by decide +kernel⟩, List.mem_of_getElem? (i := 1330) (by decide +kernel), List.mem_of_getElem? (i := 1734) (by decide +kernel), List.mem_of_getElem? (i := 1735) (by decide +kernel)⟩
theorem lw_p81 : lw_okq (⟨"NineReadersModel", "does", "(IIII)V"⟩, 63) := ⟨⟨by decide +kernel, by decide +kernel⟩, List.mem_of_getElem? (i := 1330) (by decide +kernel), List.mem_of_getElem? (i := 1738) (by decide +kernel), List.mem_of_getElem? (i := 1739) (by decide +kernel)⟩
theorem lw_p82 : lw_okq (⟨"NineReadersModel", "reads", "(II)V"⟩, 63) := ⟨⟨by decide +kernel, by decide +kernel⟩, List.mem_of_getElem? (i := 1330) (by decide +kernel), List.mem_of_getElem? (i := 1742) (by decide +kernel), List.mem_of_getElem? (i := 1743) (by decide +kernel)⟩
theorem lw_p83 : lw_okq (⟨"NineReadersModel", "lackOf", "(II)I"⟩, 63) := ⟨⟨by decide +kernel, by decide +kernel⟩, List.mem_of_getElem? (i := 1330) (by decide +kernel), List.mem_of_getElem? (i := 1747) (by decide +kernel), List.mem_of_getElem? (i := 1748) (by decide +kernel)⟩
theorem lw_p84 : lw_okq (⟨"NineReadersModel", "gets", "(IIII)V"⟩, 63) := ⟨⟨by decide +kernel, by decide +kernel⟩, List.mem_of_getElem? (i := 1330) (by decide +kernel), List.mem_of_getElem? (i := 1751) (by decide +kernel), List.mem_of_getElem? (i := 1752) (by decide +kernel)⟩
theorem lw_p85 : lw_okq (⟨"NineReadersModel", "given", "(IIZII)I"⟩, 63) := ⟨⟨by decide +kernel, by decide +kernel⟩, List.mem_of_getElem? (i := 1330) (by decide +kernel), List.mem_of_getElem? (i := 1755) (by decide +kernel), List.mem_of_getElem? (i := 1756) (by decide +kernel)⟩
theorem lw_p86 : lw_okq (⟨"NineReadersModel", "inAll", "(I)I"⟩, 63) := ⟨⟨by decide +kernel, by decide +kernel⟩, List.mem_of_getElem? (i := 1330) (by decide +kernel), List.mem_of_getElem? (i := 1772) (by decide +kernel), List.mem_of_getElem? (i := 1773) (by decide +kernel)⟩
theorem lw_p87 : lw_okq (⟨"NineReadersModel", "sum", "(I)I"⟩, 63) := ⟨⟨by decide +kernel, by decide +kernel⟩, List.mem_of_getElem? (i := 1330) (by decide +kernel), List.mem_of_getElem? (i := 1780) (by decide +kernel), List.mem_of_getElem? (i := 1781) (by decide +kernel)⟩
theorem lw_p88 : lw_okq (⟨"NineReadersModel", "lacking", "()I"⟩, 63) := ⟨⟨by decide +kernel, by decide +kernel⟩, List.mem_of_getElem? (i := 1330) (by decide +kernel), List.mem_of_getElem? (i := 1784) (by decide +kernel), List.mem_of_getElem? (i := 1785) (by decide +kernel)⟩
theorem lw_p89 : lw_okq (⟨"NineReadersModel", "makeLean", "(I)V"⟩, 63) := ⟨⟨by decide +kernel, by decide +kernel⟩, List.mem_of_getElem? (i := 1330) (by decide +kernel), List.mem_of_getElem? (i := 1792) (by decide +kernel), List.mem_of_getElem? (i := 1793) (by decide +kernel)⟩
theorem lw_p90 : lw_okq (⟨"NineReadersModel", "idlest", "(I)I"⟩, 63) := ⟨⟨by decide +kernel, by decide +kernel⟩, List.mem_of_getElem? (i := 1330) (by decide +kernel), List.mem_of_getElem? (i := 1796) (by decide +kernel), List.mem_of_getElem? (i := 1797) (by decide +kernel)⟩
theorem lw_p91 : lw_okq (⟨"NineReadersModel", "tries", "(IIII)Z"⟩, 63) := ⟨⟨by decide +kernel, by decide +kernel⟩, List.mem_of_getElem? (i := 1330) (by decide +kernel), List.mem_of_getElem? (i := 1800) (by decide +kernel), List.mem_of_getElem? (i := 1801) (by decide +kernel)⟩
theorem lw_p92 : lw_okq (⟨"NineReadersModel", "makeRows", "()V"⟩, 63) := ⟨⟨by decide +kernel, by decide +kernel⟩, List.mem_of_getElem? (i := 1330) (by decide +kernel), List.mem_of_getElem? (i := 1804) (by decide +kernel), List.mem_of_getElem? (i := 1805) (by decide +kernel)⟩
theorem lw_p93 : lw_okq (⟨"NineReadersModel", "makeTwice", "(I)V"⟩, 63) := ⟨⟨by decide +kernel, by decide +kernel⟩, List.mem_of_getElem? (i := 1330) (by decide +kernel), List.mem_of_getElem? (i := 1808) (by decide +kernel), List.mem_of_getElem? (i := 1809) (by decide +kernel)⟩
theorem lw_p94 : lw_okq (⟨"NineReadersModel", "makeChain", "(I)V"⟩, 63) := ⟨⟨by decide +kernel, by decide +kernel⟩, List.mem_of_getElem? (i := 1330) (by decide +kernel), List.mem_of_getElem? (i := 1812) (by decide +kernel), List.mem_of_getElem? (i := 1813) (by decide +kernel)⟩
theorem lw_p95 : lw_okq (⟨"NineReadersModel", "makeRound", "(I)V"⟩, 63) := ⟨⟨by decide +kernel, by decide +kernel⟩, List.mem_of_getElem? (i := 1330) (by decide +kernel), List.mem_of_getElem? (i := 1816) (by decide +kernel), List.mem_of_getElem? (i := 1817) (by decide +kernel)⟩
def lw_privs_6 : List (MethodName × Nat) := [(⟨"NineReadersModel", "timeToTell", "(II)I"⟩, 63), (⟨"NineReadersModel", "does", "(IIII)V"⟩, 63), (⟨"NineReadersModel", "reads", "(II)V"⟩, 63), (⟨"NineReadersModel", "lackOf", "(II)I"⟩, 63), (⟨"NineReadersModel", "gets", "(IIII)V"⟩, 63), (⟨"NineReadersModel", "given", "(IIZII)I"⟩, 63), (⟨"NineReadersModel", "inAll", "(I)I"⟩, 63), (⟨"NineReadersModel", "sum", "(I)I"⟩, 63), (⟨"NineReadersModel", "lacking", "()I"⟩, 63), (⟨"NineReadersModel", "makeLean", "(I)V"⟩, 63), (⟨"NineReadersModel", "idlest", "(I)I"⟩, 63), (⟨"NineReadersModel", "tries", "(IIII)Z"⟩, 63), (⟨"NineReadersModel", "makeRows", "()V"⟩, 63), (⟨"NineReadersModel", "makeTwice", "(I)V"⟩, 63), (⟨"NineReadersModel", "makeChain", "(I)V"⟩, 63), (⟨"NineReadersModel", "makeRound", "(I)V"⟩, 63)]
theorem lw_r6 : ∀ q ∈ lw_privs_6, lw_okq q := List.forall_mem_cons.mpr ⟨lw_p80, List.forall_mem_cons.mpr ⟨lw_p81, List.forall_mem_cons.mpr ⟨lw_p82, List.forall_mem_cons.mpr ⟨lw_p83, List.forall_mem_cons.mpr ⟨lw_p84, List.forall_mem_cons.mpr ⟨lw_p85, List.forall_mem_cons.mpr ⟨lw_p86, List.forall_mem_cons.mpr ⟨lw_p87, List.forall_mem_cons.mpr ⟨lw_p88, List.forall_mem_cons.mpr ⟨lw_p89, List.forall_mem_cons.mpr ⟨lw_p90, List.forall_mem_cons.mpr ⟨lw_p91, List.forall_mem_cons.mpr ⟨lw_p92, List.forall_mem_cons.mpr ⟨lw_p93, List.forall_mem_cons.mpr ⟨lw_p94, List.forall_mem_cons.mpr ⟨lw_p95, fun _ h => absurd h List.not_mem_nil⟩⟩⟩⟩⟩⟩⟩⟩⟩⟩⟩⟩⟩⟩⟩⟩
theorem lw_p96 : lw_okq (⟨"NineReadersModel", "draw", "(I)I"⟩, 63) := ⟨⟨by decide +kernel, by decide +kernel⟩, List.mem_of_getElem? (i := 1330) (by decide +kernel), List.mem_of_getElem? (i := 1824) (by decide +kernel), List.mem_of_getElem? (i := 1825) (by decide +kernel)⟩
theorem lw_p97 : lw_okq (⟨"NineReadersModel", "tryReaders", "(I)V"⟩, 63) := ⟨⟨by decide +kernel, by decide +kernel⟩, List.mem_of_getElem? (i := 1330) (by decide +kernel), List.mem_of_getElem? (i := 1833) (by decide +kernel), List.mem_of_getElem? (i := 1834) (by decide +kernel)⟩
theorem lw_p98 : lw_okq (⟨"NineReadersModel", "tryEnds", "(III)V"⟩, 63) := ⟨⟨by decide +kernel, by decide +kernel⟩, List.mem_of_getElem? (i := 1330) (by decide +kernel), List.mem_of_getElem? (i := 1845) (by decide +kernel), List.mem_of_getElem? (i := 1846) (by decide +kernel)⟩
theorem lw_p99 : lw_okq (⟨"NineReadersModel", "over", "(I)I"⟩, 63) := ⟨⟨by decide +kernel, by decide +kernel⟩, List.mem_of_getElem? (i := 1330) (by decide +kernel), List.mem_of_getElem? (i := 1849) (by decide +kernel), List.mem_of_getElem? (i := 1850) (by decide +kernel)⟩
theorem lw_p100 : lw_okq (⟨"NineReadersModel", "stretch", "(II)I"⟩, 63) := ⟨⟨by decide +kernel, by decide +kernel⟩, List.mem_of_getElem? (i := 1330) (by decide +kernel), List.mem_of_getElem? (i := 1853) (by decide +kernel), List.mem_of_getElem? (i := 1854) (by decide +kernel)⟩
theorem lw_p101 : lw_okq (⟨"NineReadersModel", "tryChain", "(IIII)V"⟩, 63) := ⟨⟨by decide +kernel, by decide +kernel⟩, List.mem_of_getElem? (i := 1330) (by decide +kernel), List.mem_of_getElem? (i := 1873) (by decide +kernel), List.mem_of_getElem? (i := 1874) (by decide +kernel)⟩
theorem lw_p102 : lw_okq (⟨"NineReadersModel", "quickest", "(I)I"⟩, 63) := ⟨⟨by decide +kernel, by decide +kernel⟩, List.mem_of_getElem? (i := 1330) (by decide +kernel), List.mem_of_getElem? (i := 1889) (by decide +kernel), List.mem_of_getElem? (i := 1890) (by decide +kernel)⟩
theorem lw_p103 : lw_okq (⟨"NineReadersModel", "isShut", "(I)Z"⟩, 63) := ⟨⟨by decide +kernel, by decide +kernel⟩, List.mem_of_getElem? (i := 1330) (by decide +kernel), List.mem_of_getElem? (i := 1893) (by decide +kernel), List.mem_of_getElem? (i := 1894) (by decide +kernel)⟩
theorem lw_p104 : lw_okq (⟨"NineReadersModel", "illNight", "(II)V"⟩, 63) := ⟨⟨by decide +kernel, by decide +kernel⟩, List.mem_of_getElem? (i := 1330) (by decide +kernel), List.mem_of_getElem? (i := 1922) (by decide +kernel), List.mem_of_getElem? (i := 1923) (by decide +kernel)⟩
theorem lw_p105 : lw_okq (⟨"NineReadersModel", "helps", "(III)V"⟩, 63) := ⟨⟨by decide +kernel, by decide +kernel⟩, List.mem_of_getElem? (i := 1330) (by decide +kernel), List.mem_of_getElem? (i := 1926) (by decide +kernel), List.mem_of_getElem? (i := 1927) (by decide +kernel)⟩
theorem lw_p106 : lw_okq (⟨"NineReadersModel", "readOr", "()Z"⟩, 63) := ⟨⟨by decide +kernel, by decide +kernel⟩, List.mem_of_getElem? (i := 1330) (by decide +kernel), List.mem_of_getElem? (i := 1934) (by decide +kernel), List.mem_of_getElem? (i := 1935) (by decide +kernel)⟩
theorem lw_p107 : lw_okq (⟨"NineReadersModel", "readAnd", "()Z"⟩, 63) := ⟨⟨by decide +kernel, by decide +kernel⟩, List.mem_of_getElem? (i := 1330) (by decide +kernel), List.mem_of_getElem? (i := 1938) (by decide +kernel), List.mem_of_getElem? (i := 1939) (by decide +kernel)⟩
theorem lw_p108 : lw_okq (⟨"NineReadersModel", "readOne", "()Z"⟩, 63) := ⟨⟨by decide +kernel, by decide +kernel⟩, List.mem_of_getElem? (i := 1330) (by decide +kernel), List.mem_of_getElem? (i := 1942) (by decide +kernel), List.mem_of_getElem? (i := 1943) (by decide +kernel)⟩
theorem lw_p109 : lw_okq (⟨"NineReadersModel", "readBracket", "()Z"⟩, 63) := ⟨⟨by decide +kernel, by decide +kernel⟩, List.mem_of_getElem? (i := 1330) (by decide +kernel), List.mem_of_getElem? (i := 1946) (by decide +kernel), List.mem_of_getElem? (i := 1947) (by decide +kernel)⟩
theorem lw_p110 : lw_okq (⟨"NineReadersModel", "readNot", "()Z"⟩, 63) := ⟨⟨by decide +kernel, by decide +kernel⟩, List.mem_of_getElem? (i := 1330) (by decide +kernel), List.mem_of_getElem? (i := 1950) (by decide +kernel), List.mem_of_getElem? (i := 1951) (by decide +kernel)⟩
theorem lw_p111 : lw_okq (⟨"NineReadersModel", "lays", "(IIII)I"⟩, 63) := ⟨⟨by decide +kernel, by decide +kernel⟩, List.mem_of_getElem? (i := 1330) (by decide +kernel), List.mem_of_getElem? (i := 1954) (by decide +kernel), List.mem_of_getElem? (i := 1955) (by decide +kernel)⟩
def lw_privs_7 : List (MethodName × Nat) := [(⟨"NineReadersModel", "draw", "(I)I"⟩, 63), (⟨"NineReadersModel", "tryReaders", "(I)V"⟩, 63), (⟨"NineReadersModel", "tryEnds", "(III)V"⟩, 63), (⟨"NineReadersModel", "over", "(I)I"⟩, 63), (⟨"NineReadersModel", "stretch", "(II)I"⟩, 63), (⟨"NineReadersModel", "tryChain", "(IIII)V"⟩, 63), (⟨"NineReadersModel", "quickest", "(I)I"⟩, 63), (⟨"NineReadersModel", "isShut", "(I)Z"⟩, 63), (⟨"NineReadersModel", "illNight", "(II)V"⟩, 63), (⟨"NineReadersModel", "helps", "(III)V"⟩, 63), (⟨"NineReadersModel", "readOr", "()Z"⟩, 63), (⟨"NineReadersModel", "readAnd", "()Z"⟩, 63), (⟨"NineReadersModel", "readOne", "()Z"⟩, 63), (⟨"NineReadersModel", "readBracket", "()Z"⟩, 63), (⟨"NineReadersModel", "readNot", "()Z"⟩, 63), (⟨"NineReadersModel", "lays", "(IIII)I"⟩, 63)]
theorem lw_r7 : ∀ q ∈ lw_privs_7, lw_okq q := List.forall_mem_cons.mpr ⟨lw_p96, List.forall_mem_cons.mpr ⟨lw_p97, List.forall_mem_cons.mpr ⟨lw_p98, List.forall_mem_cons.mpr ⟨lw_p99, List.forall_mem_cons.mpr ⟨lw_p100, List.forall_mem_cons.mpr ⟨lw_p101, List.forall_mem_cons.mpr ⟨lw_p102, List.forall_mem_cons.mpr ⟨lw_p103, List.forall_mem_cons.mpr ⟨lw_p104, List.forall_mem_cons.mpr ⟨lw_p105, List.forall_mem_cons.mpr ⟨lw_p106, List.forall_mem_cons.mpr ⟨lw_p107, List.forall_mem_cons.mpr ⟨lw_p108, List.forall_mem_cons.mpr ⟨lw_p109, List.forall_mem_cons.mpr ⟨lw_p110, List.forall_mem_cons.mpr ⟨lw_p111, fun _ h => absurd h List.not_mem_nil⟩⟩⟩⟩⟩⟩⟩⟩⟩⟩⟩⟩⟩⟩⟩⟩
theorem lw_p112 : lw_okq (⟨"NineReadersModel", "readOf", "(I)Z"⟩, 63) := ⟨⟨by decide +kernel, by decide +kernel⟩, List.mem_of_getElem? (i := 1330) (by decide +kernel), List.mem_of_getElem? (i := 1958) (by decide +kernel), List.mem_of_getElem? (i := 1959) (by decide +kernel)⟩
theorem lw_p113 : lw_okq (⟨"NineReadersModel", "readCompare", "(I)Z"⟩, 63) := ⟨⟨by decide +kernel, by decide +kernel⟩, List.mem_of_getElem? (i := 1330) (by decide +kernel), List.mem_of_getElem? (i := 1962) (by decide +kernel), List.mem_of_getElem? (i := 1963) (by decide +kernel)⟩
theorem lw_p114 : lw_okq (⟨"NineReadersModel", "isSo", "(II)Z"⟩, 63) := ⟨⟨by decide +kernel, by decide +kernel⟩, List.mem_of_getElem? (i := 1330) (by decide +kernel), List.mem_of_getElem? (i := 1970) (by decide +kernel), List.mem_of_getElem? (i := 1971) (by decide +kernel)⟩
def lw_privs_8 : List (MethodName × Nat) := [(⟨"NineReadersModel", "readOf", "(I)Z"⟩, 63), (⟨"NineReadersModel", "readCompare", "(I)Z"⟩, 63), (⟨"NineReadersModel", "isSo", "(II)Z"⟩, 63)]
theorem lw_r8 : ∀ q ∈ lw_privs_8, lw_okq q := List.forall_mem_cons.mpr ⟨lw_p112, List.forall_mem_cons.mpr ⟨lw_p113, List.forall_mem_cons.mpr ⟨lw_p114, fun _ h => absurd h List.not_mem_nil⟩⟩⟩
def lw_privs : List (MethodName × Nat) := lw_privs_1 ++ (lw_privs_2 ++ (lw_privs_3 ++ (lw_privs_4 ++ (lw_privs_5 ++ (lw_privs_6 ++ (lw_privs_7 ++ (lw_privs_8)))))))
def lw_tbl : List Cond := k2_sels lw_privs ++ tables_1
theorem lw_privs_ok : ∀ q ∈ lw_privs, lw_okq q := by
  show ∀ q ∈ lw_privs_1 ++ (lw_privs_2 ++ (lw_privs_3 ++ (lw_privs_4 ++ (lw_privs_5 ++ (lw_privs_6 ++ (lw_privs_7 ++ (lw_privs_8))))))), lw_okq q
  exact List.forall_mem_append.mpr ⟨lw_r1, List.forall_mem_append.mpr ⟨lw_r2, List.forall_mem_append.mpr ⟨lw_r3, List.forall_mem_append.mpr ⟨lw_r4, List.forall_mem_append.mpr ⟨lw_r5, List.forall_mem_append.mpr ⟨lw_r6, List.forall_mem_append.mpr ⟨lw_r7, lw_r8⟩⟩⟩⟩⟩⟩⟩
/-! ===== BEGIN words of one list among another's, by their places ===== -/
theorem goodIn_r {big : List Cond} (ws : List Cond) (ps : List Nat) (hp : ws = ps.filterMap (fun i => big[i]?)) (h : ws.all goodWord = true) : GoodIn big ws := by
  intro w hw
  have h1 := List.all_eq_true.mp h w hw
  rw [hp] at hw
  obtain ⟨i, -, hi⟩ := List.mem_filterMap.mp hw
  have hm : w ∈ big := by first | exact List.mem_of_getElem? hi | exact List.getElem?_mem hi
  exact ⟨hm, good_of_word h1⟩
theorem goodIn_app {big a b : List Cond} (ha : GoodIn big a) (hb : GoodIn big b) : GoodIn big (a ++ b) := fun w h => (List.mem_append.mp h).elim (ha w) (hb w)
theorem goodIn_ca {big a b : List Cond} {c : Cond} (ha : GoodIn big (c :: a)) (hb : GoodIn big b) : GoodIn big (c :: (a ++ b)) := fun w h => (List.mem_cons.mp h).elim (fun e => ha w (List.mem_cons.mpr (Or.inl e))) (fun h => (List.mem_append.mp h).elim (fun h => ha w (List.mem_cons.mpr (Or.inr h))) (hb w))
theorem goodIn_sub {big ws : List Cond} (hm : ∀ w ∈ ws, w ∈ big) (h : ws.all goodWord = true) : GoodIn big ws := fun w hw => ⟨hm w hw, good_of_word (List.all_eq_true.mp h w hw)⟩
/-! ===== END ===== -/
def RX0 : String := "NineReaders$Book"
def TX0 : u_T := fun k => match k with
  | 0 => ("NineReaders$Book", "chapName", "[I", true)
  | 1 => ("NineReaders$Book", "pages", "[I", true)
  | 2 => ("NineReaders$Book", "worth", "[I", true)
  | 3 => ("NineReaders$Book", "must", "[I", true)
  | 4 => ("NineReaders$Book", "lean", "[[I", true)
  | 5 => ("NineReaders$Book", "readerName", "[I", true)
  | 6 => ("NineReaders$Book", "pace", "[I", true)
  | 7 => ("NineReaders$Book", "tell", "[I", true)
  | 8 => ("NineReaders$Book", "keep", "[I", true)
  | 9 => ("NineReaders$Book", "time", "[I", true)
  | 10 => ("NineReaders$Book", "skips", "[I", true)
  | 11 => ("NineReaders$Book", "chaps", "I", false)
  | 12 => ("NineReaders$Book", "readers", "I", false)
  | 13 => ("NineReaders$Book", "lines", "I", false)
  | 14 => ("NineReaders$Book", "speed", "I", false)
  | 15 => ("NineReaders$Book", "again", "I", false)
  | 16 => ("NineReaders$Book", "speedTold", "Z", false)
  | _ => ("NineReaders$Book", "againTold", "Z", false)
def tyX0 : Nat → FieldType := fun k => match k with
  | 0 => .array .int
  | 1 => .array .int
  | 2 => .array .int
  | 3 => .array .int
  | 4 => .array (.array .int)
  | 5 => .array .int
  | 6 => .array .int
  | 7 => .array .int
  | 8 => .array .int
  | 9 => .array .int
  | 10 => .array .int
  | 11 => .int
  | 12 => .int
  | 13 => .int
  | 14 => .int
  | 15 => .int
  | 16 => .boolean
  | _ => .boolean
abbrev wsX00 : List Cond := u_ws RX0 TX0 18
theorem nmX0 : ∀ a, a < 18 → ∀ b, b < 18 → a ≠ b → (TX0 a).2.1 ≠ (TX0 b).2.1 := by decide +kernel
theorem tyX0_ok : ∀ k, k < 18 → parseFieldDescriptor (TX0 k).2.2.1 = some (tyX0 k) := by decide +kernel
abbrev cX0_init : ByteArray := prog_2_method_1_code
def yX0_init : MethodName := ⟨RX0, "<init>", "()V"⟩
abbrev cX0_clear : ByteArray := prog_2_method_2_code
def yX0_clear : MethodName := ⟨RX0, "clear", "()V"⟩
abbrev cX0_copyFrom : ByteArray := prog_2_method_3_code
def yX0_copyFrom : MethodName := ⟨RX0, "copyFrom", "(LNineReaders$Book;)V"⟩
abbrev cX0_copyRow : ByteArray := prog_2_method_4_code
def yX0_copyRow : MethodName := ⟨RX0, "copyRow", "([I[II)V"⟩
abbrev cX0_hasChap : ByteArray := prog_2_method_5_code
def yX0_hasChap : MethodName := ⟨RX0, "hasChap", "(I)Z"⟩
abbrev cX0_hasReader : ByteArray := prog_2_method_6_code
def yX0_hasReader : MethodName := ⟨RX0, "hasReader", "(I)Z"⟩
abbrev cX0_chapNamed : ByteArray := prog_2_method_7_code
def yX0_chapNamed : MethodName := ⟨RX0, "chapNamed", "(I)I"⟩
abbrev cX0_readerNamed : ByteArray := prog_2_method_8_code
def yX0_readerNamed : MethodName := ⟨RX0, "readerNamed", "(I)I"⟩
abbrev cX0_placeOf : ByteArray := prog_2_method_9_code
def yX0_placeOf : MethodName := ⟨RX0, "placeOf", "(I[II)I"⟩
abbrev cX0_leansOnHowMany : ByteArray := prog_2_method_10_code
def yX0_leansOnHowMany : MethodName := ⟨RX0, "leansOnHowMany", "(I)I"⟩
abbrev cX0_readFrom : ByteArray := prog_2_method_11_code
def yX0_readFrom : MethodName := ⟨RX0, "readFrom", "(LNineReaders$Scan;)Z"⟩
abbrev cX0_readChap : ByteArray := prog_2_method_12_code
def yX0_readChap : MethodName := ⟨RX0, "readChap", "(LNineReaders$Scan;)Z"⟩
abbrev cX0_readLeanings : ByteArray := prog_2_method_13_code
def yX0_readLeanings : MethodName := ⟨RX0, "readLeanings", "(LNineReaders$Scan;I)Z"⟩
abbrev cX0_readReader : ByteArray := prog_2_method_14_code
def yX0_readReader : MethodName := ⟨RX0, "readReader", "(LNineReaders$Scan;)Z"⟩
abbrev cX0_takeInto : ByteArray := prog_2_method_15_code
def yX0_takeInto : MethodName := ⟨RX0, "takeInto", "(LNineReaders$Scan;II[II)Z"⟩
abbrev cX0_readSpeed : ByteArray := prog_2_method_16_code
def yX0_readSpeed : MethodName := ⟨RX0, "readSpeed", "(LNineReaders$Scan;)Z"⟩
abbrev cX0_readAgain : ByteArray := prog_2_method_17_code
def yX0_readAgain : MethodName := ⟨RX0, "readAgain", "(LNineReaders$Scan;)Z"⟩
abbrev cX0_takeNewName : ByteArray := prog_2_method_18_code
def yX0_takeNewName : MethodName := ⟨RX0, "takeNewName", "(LNineReaders$Scan;)Z"⟩
abbrev cX0_cutUp : ByteArray := prog_2_method_19_code
def yX0_cutUp : MethodName := ⟨RX0, "cutUp", "(II)I"⟩
abbrev cX0_readTime : ByteArray := prog_2_method_20_code
def yX0_readTime : MethodName := ⟨RX0, "readTime", "(II)I"⟩
abbrev cX0_tellTime : ByteArray := prog_2_method_21_code
def yX0_tellTime : MethodName := ⟨RX0, "tellTime", "(II)I"⟩
abbrev cX0_lackAt : ByteArray := prog_2_method_22_code
def yX0_lackAt : MethodName := ⟨RX0, "lackAt", "(I[II)I"⟩
abbrev cX0_partsRead : ByteArray := prog_2_method_23_code
def yX0_partsRead : MethodName := ⟨RX0, "partsRead", "(II)I"⟩
abbrev cX0_partsTold : ByteArray := prog_2_method_24_code
def yX0_partsTold : MethodName := ⟨RX0, "partsTold", "(IIII)I"⟩
abbrev cX0_retold : ByteArray := prog_2_method_25_code
def yX0_retold : MethodName := ⟨RX0, "retold", "(I)I"⟩
abbrev cX0_ofMillion : ByteArray := prog_2_method_26_code
def yX0_ofMillion : MethodName := ⟨RX0, "ofMillion", "(II)I"⟩
def RX1 : String := "NineReaders$Choice"
def TX1 : u_T := fun k => match k with
  | 0 => ("NineReaders$Choice", "worth", "I", false)
  | 1 => ("NineReaders$Choice", "set", "I", false)
  | 2 => ("NineReaders$Choice", "questions", "I", false)
  | 3 => ("NineReaders$Choice", "worthIn", "[I", true)
  | 4 => ("NineReaders$Choice", "setIn", "[I", true)
  | 5 => ("NineReaders$Choice", "askedBy", "[I", true)
  | 6 => ("NineReaders$Choice", "takes", "[I", true)
  | 7 => ("NineReaders$Choice", "needs", "[I", true)
  | 8 => ("NineReaders$Choice", "book", "LNineReaders$Book;", false)
  | _ => ("NineReaders$Choice", "quarters", "I", false)
def tyX1 : Nat → FieldType := fun k => match k with
  | 0 => .int
  | 1 => .int
  | 2 => .int
  | 3 => .array .int
  | 4 => .array .int
  | 5 => .array .int
  | 6 => .array .int
  | 7 => .array .int
  | 8 => .object "NineReaders$Book"
  | _ => .int
abbrev wsX10 : List Cond := u_ws RX1 TX1 10
theorem nmX1 : ∀ a, a < 10 → ∀ b, b < 10 → a ≠ b → (TX1 a).2.1 ≠ (TX1 b).2.1 := by decide +kernel
theorem tyX1_ok : ∀ k, k < 10 → parseFieldDescriptor (TX1 k).2.2.1 = some (tyX1 k) := by decide +kernel
abbrev cX1_init : ByteArray := prog_3_method_1_code
def yX1_init : MethodName := ⟨RX1, "<init>", "(LNineReaders$Book;)V"⟩
abbrev cX1_readAlone : ByteArray := prog_3_method_2_code
def yX1_readAlone : MethodName := ⟨RX1, "readAlone", "(LNineReaders$Book;I)V"⟩
abbrev cX1_leaveOut : ByteArray := prog_3_method_3_code
def yX1_leaveOut : MethodName := ⟨RX1, "leaveOut", "(LNineReaders$Book;)V"⟩
abbrev cX1_tryLeaving : ByteArray := prog_3_method_4_code
def yX1_tryLeaving : MethodName := ⟨RX1, "tryLeaving", "(IIIII)V"⟩
abbrev cX1_askFewest : ByteArray := prog_3_method_5_code
def yX1_askFewest : MethodName := ⟨RX1, "askFewest", "(LNineReaders$Scan;III)I"⟩
abbrev cX1_readQuestions : ByteArray := prog_3_method_6_code
def yX1_readQuestions : MethodName := ⟨RX1, "readQuestions", "(LNineReaders$Scan;II)Z"⟩
def RX2 : String := "NineReaders$Cuts"
def TX2 : u_T := fun k => match k with
  | 0 => ("NineReaders$Cuts", "ends", "[I", true)
  | 1 => ("NineReaders$Cuts", "stretches", "I", false)
  | 2 => ("NineReaders$Cuts", "side", "I", false)
  | 3 => ("NineReaders$Cuts", "least", "[[I", true)
  | _ => ("NineReaders$Cuts", "endOfFirst", "[[I", true)
def tyX2 : Nat → FieldType := fun k => match k with
  | 0 => .array .int
  | 1 => .int
  | 2 => .int
  | 3 => .array (.array .int)
  | _ => .array (.array .int)
abbrev wsX20 : List Cond := u_ws RX2 TX2 5
theorem nmX2 : ∀ a, a < 5 → ∀ b, b < 5 → a ≠ b → (TX2 a).2.1 ≠ (TX2 b).2.1 := by decide +kernel
theorem tyX2_ok : ∀ k, k < 5 → parseFieldDescriptor (TX2 k).2.2.1 = some (tyX2 k) := by decide +kernel
abbrev cX2_init : ByteArray := prog_4_method_1_code
def yX2_init : MethodName := ⟨RX2, "<init>", "()V"⟩
abbrev cX2_stretch : ByteArray := prog_4_method_2_code
def yX2_stretch : MethodName := ⟨RX2, "stretch", "(LNineReaders$Book;II)I"⟩
abbrev cX2_chooseEnds : ByteArray := prog_4_method_3_code
def yX2_chooseEnds : MethodName := ⟨RX2, "chooseEnds", "(LNineReaders$Book;III)V"⟩
abbrev cX2_divide : ByteArray := prog_4_method_4_code
def yX2_divide : MethodName := ⟨RX2, "divide", "(LNineReaders$Book;LNineReaders$Scan;II)I"⟩
abbrev cX2_sidesFit : ByteArray := prog_4_method_5_code
def yX2_sidesFit : MethodName := ⟨RX2, "sidesFit", "(LNineReaders$Book;LNineReaders$Scan;III)Z"⟩
abbrev cX2_overSides : ByteArray := prog_4_method_6_code
def yX2_overSides : MethodName := ⟨RX2, "overSides", "(LNineReaders$Book;LNineReaders$Scan;II)I"⟩
def RX3 : String := "NineReaders$Illness"
def TX3 : u_T := fun k => match k with
  | 0 => ("NineReaders$Illness", "minds", "LNineReaders$Minds;", true)
  | 1 => ("NineReaders$Illness", "missed", "[I", true)
  | 2 => ("NineReaders$Illness", "misses", "I", false)
  | 3 => ("NineReaders$Illness", "sum", "I", false)
  | 4 => ("NineReaders$Illness", "dropped", "I", false)
  | 5 => ("NineReaders$Illness", "helper", "I", false)
  | _ => ("NineReaders$Illness", "helpedSum", "I", false)
def tyX3 : Nat → FieldType := fun k => match k with
  | 0 => .object "NineReaders$Minds"
  | 1 => .array .int
  | 2 => .int
  | 3 => .int
  | 4 => .int
  | 5 => .int
  | _ => .int
abbrev wsX30 : List Cond := u_ws RX3 TX3 7
theorem nmX3 : ∀ a, a < 7 → ∀ b, b < 7 → a ≠ b → (TX3 a).2.1 ≠ (TX3 b).2.1 := by decide +kernel
theorem tyX3_ok : ∀ k, k < 7 → parseFieldDescriptor (TX3 k).2.2.1 = some (tyX3 k) := by decide +kernel
abbrev cX3_init : ByteArray := prog_5_method_1_code
def yX3_init : MethodName := ⟨RX3, "<init>", "(LNineReaders$Book;)V"⟩
abbrev cX3_fall : ByteArray := prog_5_method_2_code
def yX3_fall : MethodName := ⟨RX3, "fall", "(LNineReaders$Book;LNineReaders$Plan;II)V"⟩
abbrev cX3_tryAct : ByteArray := prog_5_method_3_code
def yX3_tryAct : MethodName := ⟨RX3, "tryAct", "(LNineReaders$Plan;II)Z"⟩
abbrev cX3_offerHelp : ByteArray := prog_5_method_4_code
def yX3_offerHelp : MethodName := ⟨RX3, "offerHelp", "(I)V"⟩
abbrev cX3_readMissed : ByteArray := prog_5_method_5_code
def yX3_readMissed : MethodName := ⟨RX3, "readMissed", "(I)V"⟩
def RX4 : String := "NineReaders$Maker"
def TX4 : u_T := fun k => match k with
  | 0 => ("NineReaders$Maker", "minds", "LNineReaders$Minds;", true)
  | 1 => ("NineReaders$Maker", "part", "[I", true)
  | 2 => ("NineReaders$Maker", "book", "LNineReaders$Book;", false)
  | 3 => ("NineReaders$Maker", "plan", "LNineReaders$Plan;", false)
  | _ => ("NineReaders$Maker", "drawnLast", "I", false)
def tyX4 : Nat → FieldType := fun k => match k with
  | 0 => .object "NineReaders$Minds"
  | 1 => .array .int
  | 2 => .object "NineReaders$Book"
  | 3 => .object "NineReaders$Plan"
  | _ => .int
abbrev wsX40 : List Cond := u_ws RX4 TX4 5
theorem nmX4 : ∀ a, a < 5 → ∀ b, b < 5 → a ≠ b → (TX4 a).2.1 ≠ (TX4 b).2.1 := by decide +kernel
theorem tyX4_ok : ∀ k, k < 5 → parseFieldDescriptor (TX4 k).2.2.1 = some (tyX4 k) := by decide +kernel
abbrev cX4_init : ByteArray := prog_6_method_1_code
def yX4_init : MethodName := ⟨RX4, "<init>", "(LNineReaders$Book;LNineReaders$Plan;)V"⟩
abbrev cX4_isKind : ByteArray := prog_6_method_2_code
def yX4_isKind : MethodName := ⟨RX4, "isKind", "(II)Z"⟩
abbrev cX4_begin : ByteArray := prog_6_method_3_code
def yX4_begin : MethodName := ⟨RX4, "begin", "(LNineReaders$Book;LNineReaders$Plan;)V"⟩
abbrev cX4_fill : ByteArray := prog_6_method_4_code
def yX4_fill : MethodName := ⟨RX4, "fill", "(II)V"⟩
abbrev cX4_tryAct : ByteArray := prog_6_method_5_code
def yX4_tryAct : MethodName := ⟨RX4, "tryAct", "(IIII)Z"⟩
abbrev cX4_addRows : ByteArray := prog_6_method_6_code
def yX4_addRows : MethodName := ⟨RX4, "addRows", "()V"⟩
abbrev cX4_addParts : ByteArray := prog_6_method_7_code
def yX4_addParts : MethodName := ⟨RX4, "addParts", "(I)V"⟩
abbrev cX4_readPart : ByteArray := prog_6_method_8_code
def yX4_readPart : MethodName := ⟨RX4, "readPart", "(II)V"⟩
abbrev cX4_findParts : ByteArray := prog_6_method_9_code
def yX4_findParts : MethodName := ⟨RX4, "findParts", "(I)V"⟩
abbrev cX4_join : ByteArray := prog_6_method_10_code
def yX4_join : MethodName := ⟨RX4, "join", "(II)V"⟩
abbrev cX4_mostLeft : ByteArray := prog_6_method_11_code
def yX4_mostLeft : MethodName := ⟨RX4, "mostLeft", "(I)I"⟩
abbrev cX4_addSecondReadings : ByteArray := prog_6_method_12_code
def yX4_addSecondReadings : MethodName := ⟨RX4, "addSecondReadings", "(I)V"⟩
abbrev cX4_mostWorth : ByteArray := prog_6_method_13_code
def yX4_mostWorth : MethodName := ⟨RX4, "mostWorth", "(I)I"⟩
abbrev cX4_readersOf : ByteArray := prog_6_method_14_code
def yX4_readersOf : MethodName := ⟨RX4, "readersOf", "(I)I"⟩
abbrev cX4_addChains : ByteArray := prog_6_method_15_code
def yX4_addChains : MethodName := ⟨RX4, "addChains", "(I)V"⟩
abbrev cX4_readerOf : ByteArray := prog_6_method_16_code
def yX4_readerOf : MethodName := ⟨RX4, "readerOf", "(I)I"⟩
abbrev cX4_addRounds : ByteArray := prog_6_method_17_code
def yX4_addRounds : MethodName := ⟨RX4, "addRounds", "(I)V"⟩
abbrev cX4_drawActs : ByteArray := prog_6_method_18_code
def yX4_drawActs : MethodName := ⟨RX4, "drawActs", "(II)V"⟩
abbrev cX4_draw : ByteArray := prog_6_method_19_code
def yX4_draw : MethodName := ⟨RX4, "draw", "(I)I"⟩
def RX5 : String := "NineReaders$Minds"
def TX5 : u_T := fun k => match k with
  | 0 => ("NineReaders$Minds", "left", "[I", true)
  | 1 => ("NineReaders$Minds", "hasRead", "[I", true)
  | 2 => ("NineReaders$Minds", "wasTold", "[I", true)
  | 3 => ("NineReaders$Minds", "parts", "[I", true)
  | 4 => ("NineReaders$Minds", "wrongAt", "I", false)
  | 5 => ("NineReaders$Minds", "whyWrong", "I", false)
  | 6 => ("NineReaders$Minds", "extraGain", "I", false)
  | 7 => ("NineReaders$Minds", "extraReader", "I", false)
  | 8 => ("NineReaders$Minds", "extraChap", "I", false)
  | _ => ("NineReaders$Minds", "book", "LNineReaders$Book;", false)
def tyX5 : Nat → FieldType := fun k => match k with
  | 0 => .array .int
  | 1 => .array .int
  | 2 => .array .int
  | 3 => .array .int
  | 4 => .int
  | 5 => .int
  | 6 => .int
  | 7 => .int
  | 8 => .int
  | _ => .object "NineReaders$Book"
abbrev wsX50 : List Cond := u_ws RX5 TX5 10
theorem nmX5 : ∀ a, a < 10 → ∀ b, b < 10 → a ≠ b → (TX5 a).2.1 ≠ (TX5 b).2.1 := by decide +kernel
theorem tyX5_ok : ∀ k, k < 10 → parseFieldDescriptor (TX5 k).2.2.1 = some (tyX5 k) := by decide +kernel
abbrev cX5_init : ByteArray := prog_7_method_1_code
def yX5_init : MethodName := ⟨RX5, "<init>", "(LNineReaders$Book;)V"⟩
abbrev cX5_begin : ByteArray := prog_7_method_2_code
def yX5_begin : MethodName := ⟨RX5, "begin", "(LNineReaders$Book;)V"⟩
abbrev cX5_follow : ByteArray := prog_7_method_3_code
def yX5_follow : MethodName := ⟨RX5, "follow", "(LNineReaders$Plan;)V"⟩
abbrev cX5_wrongOf : ByteArray := prog_7_method_4_code
def yX5_wrongOf : MethodName := ⟨RX5, "wrongOf", "(IIII)I"⟩
abbrev cX5_withTime : ByteArray := prog_7_method_5_code
def yX5_withTime : MethodName := ⟨RX5, "withTime", "(I)I"⟩
abbrev cX5_perform : ByteArray := prog_7_method_6_code
def yX5_perform : MethodName := ⟨RX5, "perform", "(IIII)V"⟩
abbrev cX5_partsIfRead : ByteArray := prog_7_method_7_code
def yX5_partsIfRead : MethodName := ⟨RX5, "partsIfRead", "(II)I"⟩
abbrev cX5_hear : ByteArray := prog_7_method_8_code
def yX5_hear : MethodName := ⟨RX5, "hear", "(IIII)V"⟩
abbrev cX5_inAll : ByteArray := prog_7_method_9_code
def yX5_inAll : MethodName := ⟨RX5, "inAll", "(I)I"⟩
abbrev cX5_sum : ByteArray := prog_7_method_10_code
def yX5_sum : MethodName := ⟨RX5, "sum", "()I"⟩
abbrev cX5_sent : ByteArray := prog_7_method_11_code
def yX5_sent : MethodName := ⟨RX5, "sent", "()I"⟩
abbrev cX5_unreadMusts : ByteArray := prog_7_method_12_code
def yX5_unreadMusts : MethodName := ⟨RX5, "unreadMusts", "()I"⟩
abbrev cX5_lacking : ByteArray := prog_7_method_13_code
def yX5_lacking : MethodName := ⟨RX5, "lacking", "()I"⟩
abbrev cX5_findExtra : ByteArray := prog_7_method_14_code
def yX5_findExtra : MethodName := ⟨RX5, "findExtra", "()V"⟩
abbrev cX5_offerExtra : ByteArray := prog_7_method_15_code
def yX5_offerExtra : MethodName := ⟨RX5, "offerExtra", "(II)V"⟩
def RX6 : String := "NineReaders$Plan"
def TX6 : u_T := fun k => match k with
  | 0 => ("NineReaders$Plan", "who", "[I", true)
  | 1 => ("NineReaders$Plan", "what", "[I", true)
  | 2 => ("NineReaders$Plan", "full", "[I", true)
  | 3 => ("NineReaders$Plan", "hear", "[I", true)
  | _ => ("NineReaders$Plan", "acts", "I", false)
def tyX6 : Nat → FieldType := fun k => match k with
  | 0 => .array .int
  | 1 => .array .int
  | 2 => .array .int
  | 3 => .array .int
  | _ => .int
abbrev wsX60 : List Cond := u_ws RX6 TX6 5
theorem nmX6 : ∀ a, a < 5 → ∀ b, b < 5 → a ≠ b → (TX6 a).2.1 ≠ (TX6 b).2.1 := by decide +kernel
theorem tyX6_ok : ∀ k, k < 5 → parseFieldDescriptor (TX6 k).2.2.1 = some (tyX6 k) := by decide +kernel
abbrev cX6_init : ByteArray := prog_8_method_1_code
def yX6_init : MethodName := ⟨RX6, "<init>", "()V"⟩
abbrev cX6_clear : ByteArray := prog_8_method_2_code
def yX6_clear : MethodName := ⟨RX6, "clear", "()V"⟩
abbrev cX6_copyFrom : ByteArray := prog_8_method_3_code
def yX6_copyFrom : MethodName := ⟨RX6, "copyFrom", "(LNineReaders$Plan;)V"⟩
abbrev cX6_isFull : ByteArray := prog_8_method_4_code
def yX6_isFull : MethodName := ⟨RX6, "isFull", "()Z"⟩
abbrev cX6_add : ByteArray := prog_8_method_5_code
def yX6_add : MethodName := ⟨RX6, "add", "(IIII)V"⟩
abbrev cX6_readFrom : ByteArray := prog_8_method_6_code
def yX6_readFrom : MethodName := ⟨RX6, "readFrom", "(LNineReaders$Scan;LNineReaders$Book;)Z"⟩
abbrev cX6_readAct : ByteArray := prog_8_method_7_code
def yX6_readAct : MethodName := ⟨RX6, "readAct", "(LNineReaders$Scan;LNineReaders$Book;)Z"⟩
abbrev cX6_readReading : ByteArray := prog_8_method_8_code
def yX6_readReading : MethodName := ⟨RX6, "readReading", "(LNineReaders$Scan;LNineReaders$Book;I)Z"⟩
abbrev cX6_readTelling : ByteArray := prog_8_method_9_code
def yX6_readTelling : MethodName := ⟨RX6, "readTelling", "(LNineReaders$Scan;LNineReaders$Book;I)Z"⟩
abbrev cX6_readListeners : ByteArray := prog_8_method_10_code
def yX6_readListeners : MethodName := ⟨RX6, "readListeners", "(LNineReaders$Scan;LNineReaders$Book;I)Z"⟩
def RX7 : String := "NineReaders$Row"
def TX7 : u_T := fun k => match k with
  | 0 => ("NineReaders$Row", "first", "[I", true)
  | 1 => ("NineReaders$Row", "told", "I", false)
  | 2 => ("NineReaders$Row", "among", "[I", true)
  | 3 => ("NineReaders$Row", "trial", "[I", true)
  | 4 => ("NineReaders$Row", "book", "LNineReaders$Book;", false)
  | 5 => ("NineReaders$Row", "places", "I", false)
  | _ => ("NineReaders$Row", "greatest", "I", false)
def tyX7 : Nat → FieldType := fun k => match k with
  | 0 => .array .int
  | 1 => .int
  | 2 => .array .int
  | 3 => .array .int
  | 4 => .object "NineReaders$Book"
  | 5 => .int
  | _ => .int
abbrev wsX70 : List Cond := u_ws RX7 TX7 7
theorem nmX7 : ∀ a, a < 7 → ∀ b, b < 7 → a ≠ b → (TX7 a).2.1 ≠ (TX7 b).2.1 := by decide +kernel
theorem tyX7_ok : ∀ k, k < 7 → parseFieldDescriptor (TX7 k).2.2.1 = some (tyX7 k) := by decide +kernel
abbrev cX7_init : ByteArray := prog_9_method_1_code
def yX7_init : MethodName := ⟨RX7, "<init>", "(LNineReaders$Book;)V"⟩
abbrev cX7_search : ByteArray := prog_9_method_2_code
def yX7_search : MethodName := ⟨RX7, "search", "(LNineReaders$Book;LNineReaders$Scan;I)I"⟩
abbrev cX7_tryFrom : ByteArray := prog_9_method_3_code
def yX7_tryFrom : MethodName := ⟨RX7, "tryFrom", "(IIII)V"⟩
def RX8 : String := "NineReaders$Scan"
def TX8 : u_T := fun k => match k with
  | 0 => ("NineReaders$Scan", "bytes", "[B", true)
  | 1 => ("NineReaders$Scan", "wordCodes", "[I", true)
  | 2 => ("NineReaders$Scan", "length", "I", false)
  | 3 => ("NineReaders$Scan", "limit", "I", false)
  | 4 => ("NineReaders$Scan", "at", "I", false)
  | 5 => ("NineReaders$Scan", "place", "I", false)
  | 6 => ("NineReaders$Scan", "kind", "I", false)
  | 7 => ("NineReaders$Scan", "value", "I", false)
  | 8 => ("NineReaders$Scan", "taken", "I", false)
  | 9 => ("NineReaders$Scan", "faultKind", "I", false)
  | _ => ("NineReaders$Scan", "faultPlace", "I", false)
def tyX8 : Nat → FieldType := fun k => match k with
  | 0 => .array .byte
  | 1 => .array .int
  | 2 => .int
  | 3 => .int
  | 4 => .int
  | 5 => .int
  | 6 => .int
  | 7 => .int
  | 8 => .int
  | 9 => .int
  | _ => .int
abbrev wsX80 : List Cond := u_ws RX8 TX8 11
theorem nmX8 : ∀ a, a < 11 → ∀ b, b < 11 → a ≠ b → (TX8 a).2.1 ≠ (TX8 b).2.1 := by decide +kernel
theorem tyX8_ok : ∀ k, k < 11 → parseFieldDescriptor (TX8 k).2.2.1 = some (tyX8 k) := by decide +kernel
abbrev cX8_init : ByteArray := prog_10_method_1_code
def yX8_init : MethodName := ⟨RX8, "<init>", "()V"⟩
abbrev cX8_hasRoom : ByteArray := prog_10_method_2_code
def yX8_hasRoom : MethodName := ⟨RX8, "hasRoom", "(I)Z"⟩
abbrev cX8_append : ByteArray := prog_10_method_3_code
def yX8_append : MethodName := ⟨RX8, "append", "(I)V"⟩
abbrev cX8_byteAt : ByteArray := prog_10_method_4_code
def yX8_byteAt : MethodName := ⟨RX8, "byteAt", "(I)I"⟩
abbrev cX8_areUnlike : ByteArray := prog_10_method_5_code
def yX8_areUnlike : MethodName := ⟨RX8, "areUnlike", "(III)Z"⟩
abbrev cX8_start : ByteArray := prog_10_method_6_code
def yX8_start : MethodName := ⟨RX8, "start", "(I)V"⟩
abbrev cX8_next : ByteArray := prog_10_method_7_code
def yX8_next : MethodName := ⟨RX8, "next", "()V"⟩
abbrev cX8_nextWordOrNumber : ByteArray := prog_10_method_8_code
def yX8_nextWordOrNumber : MethodName := ⟨RX8, "nextWordOrNumber", "()V"⟩
abbrev cX8_isSign : ByteArray := prog_10_method_9_code
def yX8_isSign : MethodName := ⟨RX8, "isSign", "(I)Z"⟩
abbrev cX8_isComparison : ByteArray := prog_10_method_10_code
def yX8_isComparison : MethodName := ⟨RX8, "isComparison", "(I)Z"⟩
abbrev cX8_fail : ByteArray := prog_10_method_11_code
def yX8_fail : MethodName := ⟨RX8, "fail", "(I)Z"⟩
abbrev cX8_faultAnswer : ByteArray := prog_10_method_12_code
def yX8_faultAnswer : MethodName := ⟨RX8, "faultAnswer", "()I"⟩
abbrev cX8_take : ByteArray := prog_10_method_13_code
def yX8_take : MethodName := ⟨RX8, "take", "(I)Z"⟩
abbrev cX8_takeNumber : ByteArray := prog_10_method_14_code
def yX8_takeNumber : MethodName := ⟨RX8, "takeNumber", "(II)Z"⟩
abbrev cX8_takeChap : ByteArray := prog_10_method_15_code
def yX8_takeChap : MethodName := ⟨RX8, "takeChap", "(LNineReaders$Book;)Z"⟩
def RX9 : String := "NineReaders$Sentence"
def TX9 : u_T := fun k => match k with
  | 0 => ("NineReaders$Sentence", "step", "[I", true)
  | 1 => ("NineReaders$Sentence", "chap", "[I", true)
  | 2 => ("NineReaders$Sentence", "sign", "[I", true)
  | 3 => ("NineReaders$Sentence", "number", "[I", true)
  | 4 => ("NineReaders$Sentence", "steps", "I", false)
  | _ => ("NineReaders$Sentence", "ones", "I", false)
def tyX9 : Nat → FieldType := fun k => match k with
  | 0 => .array .int
  | 1 => .array .int
  | 2 => .array .int
  | 3 => .array .int
  | 4 => .int
  | _ => .int
abbrev wsX90 : List Cond := u_ws RX9 TX9 6
theorem nmX9 : ∀ a, a < 6 → ∀ b, b < 6 → a ≠ b → (TX9 a).2.1 ≠ (TX9 b).2.1 := by decide +kernel
theorem tyX9_ok : ∀ k, k < 6 → parseFieldDescriptor (TX9 k).2.2.1 = some (tyX9 k) := by decide +kernel
abbrev cX9_init : ByteArray := prog_11_method_1_code
def yX9_init : MethodName := ⟨RX9, "<init>", "()V"⟩
abbrev cX9_clear : ByteArray := prog_11_method_2_code
def yX9_clear : MethodName := ⟨RX9, "clear", "()V"⟩
abbrev cX9_copyFrom : ByteArray := prog_11_method_3_code
def yX9_copyFrom : MethodName := ⟨RX9, "copyFrom", "(LNineReaders$Sentence;)V"⟩
abbrev cX9_add : ByteArray := prog_11_method_4_code
def yX9_add : MethodName := ⟨RX9, "add", "(IIII)V"⟩
abbrev cX9_readFrom : ByteArray := prog_11_method_5_code
def yX9_readFrom : MethodName := ⟨RX9, "readFrom", "(LNineReaders$Scan;LNineReaders$Book;)Z"⟩
abbrev cX9_readCond : ByteArray := prog_11_method_6_code
def yX9_readCond : MethodName := ⟨RX9, "readCond", "(LNineReaders$Scan;LNineReaders$Book;I)Z"⟩
abbrev cX9_readOne : ByteArray := prog_11_method_7_code
def yX9_readOne : MethodName := ⟨RX9, "readOne", "(LNineReaders$Scan;LNineReaders$Book;I)Z"⟩
abbrev cX9_readAsking : ByteArray := prog_11_method_8_code
def yX9_readAsking : MethodName := ⟨RX9, "readAsking", "(LNineReaders$Scan;LNineReaders$Book;I)Z"⟩
abbrev cX9_holds : ByteArray := prog_11_method_9_code
def yX9_holds : MethodName := ⟨RX9, "holds", "(LNineReaders$Minds;I)Z"⟩
abbrev cX9_isSo : ByteArray := prog_11_method_10_code
def yX9_isSo : MethodName := ⟨RX9, "isSo", "(LNineReaders$Minds;II)Z"⟩
abbrev cX9_compares : ByteArray := prog_11_method_11_code
def yX9_compares : MethodName := ⟨RX9, "compares", "(II)Z"⟩
def RX10 : String := "NineReaders$Share"
def TX10 : u_T := fun k => match k with
  | 0 => ("NineReaders$Share", "first", "[I", true)
  | 1 => ("NineReaders$Share", "told", "I", false)
  | 2 => ("NineReaders$Share", "trial", "[I", true)
  | 3 => ("NineReaders$Share", "left", "[I", true)
  | 4 => ("NineReaders$Share", "byReading", "[I", true)
  | 5 => ("NineReaders$Share", "inTheEnd", "[I", true)
  | 6 => ("NineReaders$Share", "book", "LNineReaders$Book;", false)
  | 7 => ("NineReaders$Share", "m", "I", false)
  | 8 => ("NineReaders$Share", "w", "I", false)
  | _ => ("NineReaders$Share", "greatest", "I", false)
def tyX10 : Nat → FieldType := fun k => match k with
  | 0 => .array .int
  | 1 => .int
  | 2 => .array .int
  | 3 => .array .int
  | 4 => .array .int
  | 5 => .array .int
  | 6 => .object "NineReaders$Book"
  | 7 => .int
  | 8 => .int
  | _ => .int
abbrev wsX100 : List Cond := u_ws RX10 TX10 10
theorem nmX10 : ∀ a, a < 10 → ∀ b, b < 10 → a ≠ b → (TX10 a).2.1 ≠ (TX10 b).2.1 := by decide +kernel
theorem tyX10_ok : ∀ k, k < 10 → parseFieldDescriptor (TX10 k).2.2.1 = some (tyX10 k) := by decide +kernel
abbrev cX10_init : ByteArray := prog_12_method_1_code
def yX10_init : MethodName := ⟨RX10, "<init>", "(LNineReaders$Book;)V"⟩
abbrev cX10_search : ByteArray := prog_12_method_2_code
def yX10_search : MethodName := ⟨RX10, "search", "(LNineReaders$Book;II)I"⟩
abbrev cX10_tryFrom : ByteArray := prog_12_method_3_code
def yX10_tryFrom : MethodName := ⟨RX10, "tryFrom", "(II)V"⟩
abbrev cX10_mostOfRest : ByteArray := prog_12_method_4_code
def yX10_mostOfRest : MethodName := ⟨RX10, "mostOfRest", "(I)I"⟩
abbrev cX10_worthIfReadBy : ByteArray := prog_12_method_5_code
def yX10_worthIfReadBy : MethodName := ⟨RX10, "worthIfReadBy", "(II)I"⟩
def RX11 : String := "NineReaders"
def TX11 : u_T := fun k => match k with
  | 0 => ("NineReaders", "scan", "LNineReaders$Scan;", true)
  | 1 => ("NineReaders", "behind", "LNineReaders$Minds;", true)
  | 2 => ("NineReaders", "maker", "LNineReaders$Maker;", true)
  | 3 => ("NineReaders", "illness", "LNineReaders$Illness;", true)
  | 4 => ("NineReaders", "share", "LNineReaders$Share;", true)
  | 5 => ("NineReaders", "cuts", "LNineReaders$Cuts;", true)
  | 6 => ("NineReaders", "row", "LNineReaders$Row;", true)
  | 7 => ("NineReaders", "choice", "LNineReaders$Choice;", true)
  | 8 => ("NineReaders", "keptBooks", "[LNineReaders$Book;", true)
  | 9 => ("NineReaders", "keptPlans", "[LNineReaders$Plan;", true)
  | 10 => ("NineReaders", "keptSentences", "[LNineReaders$Sentence;", true)
  | 11 => ("NineReaders", "kept", "[Z", true)
  | 12 => ("NineReaders", "nowBook", "LNineReaders$Book;", false)
  | 13 => ("NineReaders", "spareBook", "LNineReaders$Book;", false)
  | 14 => ("NineReaders", "nowPlan", "LNineReaders$Plan;", false)
  | 15 => ("NineReaders", "sparePlan", "LNineReaders$Plan;", false)
  | 16 => ("NineReaders", "nowSentence", "LNineReaders$Sentence;", false)
  | 17 => ("NineReaders", "spareSentence", "LNineReaders$Sentence;", false)
  | 18 => ("NineReaders", "ran", "Z", false)
  | _ => ("NineReaders", "latestWhy", "I", false)
def tyX11 : Nat → FieldType := fun k => match k with
  | 0 => .object "NineReaders$Scan"
  | 1 => .object "NineReaders$Minds"
  | 2 => .object "NineReaders$Maker"
  | 3 => .object "NineReaders$Illness"
  | 4 => .object "NineReaders$Share"
  | 5 => .object "NineReaders$Cuts"
  | 6 => .object "NineReaders$Row"
  | 7 => .object "NineReaders$Choice"
  | 8 => .array (.object "NineReaders$Book")
  | 9 => .array (.object "NineReaders$Plan")
  | 10 => .array (.object "NineReaders$Sentence")
  | 11 => .array .boolean
  | 12 => .object "NineReaders$Book"
  | 13 => .object "NineReaders$Book"
  | 14 => .object "NineReaders$Plan"
  | 15 => .object "NineReaders$Plan"
  | 16 => .object "NineReaders$Sentence"
  | 17 => .object "NineReaders$Sentence"
  | 18 => .boolean
  | _ => .int
abbrev wsX110 : List Cond := u_ws RX11 TX11 20
theorem nmX11 : ∀ a, a < 20 → ∀ b, b < 20 → a ≠ b → (TX11 a).2.1 ≠ (TX11 b).2.1 := by decide +kernel
theorem tyX11_ok : ∀ k, k < 20 → parseFieldDescriptor (TX11 k).2.2.1 = some (tyX11 k) := by decide +kernel
abbrev cX11_init : ByteArray := prog_1_method_1_code
def yX11_init : MethodName := ⟨RX11, "<init>", "()V"⟩
abbrev cX11_feed : ByteArray := prog_1_method_2_code
def yX11_feed : MethodName := ⟨RX11, "feed", "(IIIII)I"⟩
abbrev cX11_end : ByteArray := prog_1_method_3_code
def yX11_end : MethodName := ⟨RX11, "end", "(I)Z"⟩
abbrev cX11_book : ByteArray := prog_1_method_4_code
def yX11_book : MethodName := ⟨RX11, "book", "()I"⟩
abbrev cX11_fault : ByteArray := prog_1_method_5_code
def yX11_fault : MethodName := ⟨RX11, "fault", "()I"⟩
abbrev cX11_chap : ByteArray := prog_1_method_6_code
def yX11_chap : MethodName := ⟨RX11, "chap", "(II)I"⟩
abbrev cX11_leans : ByteArray := prog_1_method_7_code
def yX11_leans : MethodName := ⟨RX11, "leans", "(II)I"⟩
abbrev cX11_reader : ByteArray := prog_1_method_8_code
def yX11_reader : MethodName := ⟨RX11, "reader", "(II)I"⟩
abbrev cX11_plan : ByteArray := prog_1_method_9_code
def yX11_plan : MethodName := ⟨RX11, "plan", "()I"⟩
abbrev cX11_make : ByteArray := prog_1_method_10_code
def yX11_make : MethodName := ⟨RX11, "make", "(II)I"⟩
abbrev cX11_drawn : ByteArray := prog_1_method_11_code
def yX11_drawn : MethodName := ⟨RX11, "drawn", "(II)I"⟩
abbrev cX11_act : ByteArray := prog_1_method_12_code
def yX11_act : MethodName := ⟨RX11, "act", "(II)I"⟩
abbrev cX11_run : ByteArray := prog_1_method_13_code
def yX11_run : MethodName := ⟨RX11, "run", "()I"⟩
abbrev cX11_why : ByteArray := prog_1_method_14_code
def yX11_why : MethodName := ⟨RX11, "why", "()I"⟩
abbrev cX11_known : ByteArray := prog_1_method_15_code
def yX11_known : MethodName := ⟨RX11, "known", "(II)I"⟩
abbrev cX11_after : ByteArray := prog_1_method_16_code
def yX11_after : MethodName := ⟨RX11, "after", "(II)I"⟩
abbrev cX11_all : ByteArray := prog_1_method_17_code
def yX11_all : MethodName := ⟨RX11, "all", "(I)I"⟩
abbrev cX11_best : ByteArray := prog_1_method_18_code
def yX11_best : MethodName := ⟨RX11, "best", "(II)I"⟩
abbrev cX11_bestOf : ByteArray := prog_1_method_19_code
def yX11_bestOf : MethodName := ⟨RX11, "bestOf", "(I)I"⟩
abbrev cX11_cut : ByteArray := prog_1_method_20_code
def yX11_cut : MethodName := ⟨RX11, "cut", "(II)I"⟩
abbrev cX11_cutAt : ByteArray := prog_1_method_21_code
def yX11_cutAt : MethodName := ⟨RX11, "cutAt", "(I)I"⟩
abbrev cX11_net : ByteArray := prog_1_method_22_code
def yX11_net : MethodName := ⟨RX11, "net", "(I)I"⟩
abbrev cX11_netSide : ByteArray := prog_1_method_23_code
def yX11_netSide : MethodName := ⟨RX11, "netSide", "()I"⟩
abbrev cX11_chain : ByteArray := prog_1_method_24_code
def yX11_chain : MethodName := ⟨RX11, "chain", "()I"⟩
abbrev cX11_chainAt : ByteArray := prog_1_method_25_code
def yX11_chainAt : MethodName := ⟨RX11, "chainAt", "(I)I"⟩
abbrev cX11_alone : ByteArray := prog_1_method_26_code
def yX11_alone : MethodName := ⟨RX11, "alone", "(II)I"⟩
abbrev cX11_leave : ByteArray := prog_1_method_27_code
def yX11_leave : MethodName := ⟨RX11, "leave", "(I)I"⟩
abbrev cX11_extra : ByteArray := prog_1_method_28_code
def yX11_extra : MethodName := ⟨RX11, "extra", "(I)I"⟩
abbrev cX11_ask : ByteArray := prog_1_method_29_code
def yX11_ask : MethodName := ⟨RX11, "ask", "()I"⟩
abbrev cX11_asked : ByteArray := prog_1_method_30_code
def yX11_asked : MethodName := ⟨RX11, "asked", "()I"⟩
abbrev cX11_seen : ByteArray := prog_1_method_31_code
def yX11_seen : MethodName := ⟨RX11, "seen", "(II)I"⟩
abbrev cX11_ill : ByteArray := prog_1_method_32_code
def yX11_ill : MethodName := ⟨RX11, "ill", "(III)I"⟩
abbrev cX11_sentence : ByteArray := prog_1_method_33_code
def yX11_sentence : MethodName := ⟨RX11, "sentence", "()I"⟩
abbrev cX11_said : ByteArray := prog_1_method_34_code
def yX11_said : MethodName := ⟨RX11, "said", "()I"⟩
abbrev cX11_image : ByteArray := prog_1_method_35_code
def yX11_image : MethodName := ⟨RX11, "image", "(I)Z"⟩
abbrev cX11_restore : ByteArray := prog_1_method_36_code
def yX11_restore : MethodName := ⟨RX11, "restore", "(I)Z"⟩
abbrev cX11_count : ByteArray := prog_1_method_37_code
def yX11_count : MethodName := ⟨RX11, "count", "(I)I"⟩
abbrev cX11_runOnce : ByteArray := prog_1_method_38_code
def yX11_runOnce : MethodName := ⟨RX11, "runOnce", "()V"⟩
def RX12 : String := "NineReadersModel"
def TX12 : u_T := fun k => match k with
  | 0 => ("NineReadersModel", "thrown", "I", false)
  | 1 => ("NineReadersModel", "tape", "[I", true)
  | 2 => ("NineReadersModel", "taped", "I", false)
  | 3 => ("NineReadersModel", "size", "I", false)
  | 4 => ("NineReadersModel", "limit", "I", false)
  | 5 => ("NineReadersModel", "to", "I", false)
  | 6 => ("NineReadersModel", "from", "I", false)
  | 7 => ("NineReadersModel", "kind", "I", false)
  | 8 => ("NineReadersModel", "number", "I", false)
  | 9 => ("NineReadersModel", "sign", "I", false)
  | 10 => ("NineReadersModel", "fault", "I", false)
  | 11 => ("NineReadersModel", "place", "I", false)
  | 12 => ("NineReadersModel", "word", "J", false)
  | 13 => ("NineReadersModel", "told", "I", false)
  | 14 => ("NineReadersModel", "now", "[I", true)
  | 15 => ("NineReadersModel", "read", "[I", true)
  | 16 => ("NineReadersModel", "kept", "[I", true)
  | 17 => ("NineReadersModel", "name", "[J", true)
  | 18 => ("NineReadersModel", "readName", "[J", true)
  | 19 => ("NineReadersModel", "keptName", "[J", true)
  | 20 => ("NineReadersModel", "isKept", "[Z", true)
  | 21 => ("NineReadersModel", "isBegun", "Z", false)
  | 22 => ("NineReadersModel", "had", "I", false)
  | 23 => ("NineReadersModel", "act", "[I", true)
  | 24 => ("NineReadersModel", "acts", "I", false)
  | 25 => ("NineReadersModel", "knows", "[I", true)
  | 26 => ("NineReadersModel", "left", "[I", true)
  | 27 => ("NineReadersModel", "readSet", "[I", true)
  | 28 => ("NineReadersModel", "toldSet", "[I", true)
  | 29 => ("NineReadersModel", "firstWrong", "I", false)
  | 30 => ("NineReadersModel", "reason", "I", false)
  | 31 => ("NineReadersModel", "why", "I", false)
  | 32 => ("NineReadersModel", "part", "[I", true)
  | 33 => ("NineReadersModel", "seed", "I", false)
  | 34 => ("NineReadersModel", "choice", "[I", true)
  | 35 => ("NineReadersModel", "bestRow", "[I", true)
  | 36 => ("NineReadersModel", "bestTold", "[I", true)
  | 37 => ("NineReadersModel", "bestSum", "I", false)
  | 38 => ("NineReadersModel", "bestMany", "I", false)
  | 39 => ("NineReadersModel", "bestWide", "I", false)
  | 40 => ("NineReadersModel", "bestToldMany", "I", false)
  | 41 => ("NineReadersModel", "ends", "[I", true)
  | 42 => ("NineReadersModel", "cutRow", "[I", true)
  | 43 => ("NineReadersModel", "cutLeast", "I", false)
  | 44 => ("NineReadersModel", "cutMany", "I", false)
  | 45 => ("NineReadersModel", "cutPages", "I", false)
  | 46 => ("NineReadersModel", "cutBest", "[I", true)
  | 47 => ("NineReadersModel", "netSide", "I", false)
  | 48 => ("NineReadersModel", "chained", "[I", true)
  | 49 => ("NineReadersModel", "chainRow", "[I", true)
  | 50 => ("NineReadersModel", "chainBest", "[I", true)
  | 51 => ("NineReadersModel", "asks", "[I", true)
  | 52 => ("NineReadersModel", "chainMost", "I", false)
  | 53 => ("NineReadersModel", "chainMany", "I", false)
  | 54 => ("NineReadersModel", "askMany", "I", false)
  | 55 => ("NineReadersModel", "quick", "[I", true)
  | 56 => ("NineReadersModel", "asked", "I", false)
  | 57 => ("NineReadersModel", "dropped", "I", false)
  | 58 => ("NineReadersModel", "node", "[I", true)
  | 59 => ("NineReadersModel", "nodes", "I", false)
  | 60 => ("NineReadersModel", "ones", "I", false)
  | 61 => ("NineReadersModel", "within", "I", false)
  | _ => ("NineReadersModel", "top", "I", false)
def tyX12 : Nat → FieldType := fun k => match k with
  | 0 => .int
  | 1 => .array .int
  | 2 => .int
  | 3 => .int
  | 4 => .int
  | 5 => .int
  | 6 => .int
  | 7 => .int
  | 8 => .int
  | 9 => .int
  | 10 => .int
  | 11 => .int
  | 12 => .long
  | 13 => .int
  | 14 => .array .int
  | 15 => .array .int
  | 16 => .array .int
  | 17 => .array .long
  | 18 => .array .long
  | 19 => .array .long
  | 20 => .array .boolean
  | 21 => .boolean
  | 22 => .int
  | 23 => .array .int
  | 24 => .int
  | 25 => .array .int
  | 26 => .array .int
  | 27 => .array .int
  | 28 => .array .int
  | 29 => .int
  | 30 => .int
  | 31 => .int
  | 32 => .array .int
  | 33 => .int
  | 34 => .array .int
  | 35 => .array .int
  | 36 => .array .int
  | 37 => .int
  | 38 => .int
  | 39 => .int
  | 40 => .int
  | 41 => .array .int
  | 42 => .array .int
  | 43 => .int
  | 44 => .int
  | 45 => .int
  | 46 => .array .int
  | 47 => .int
  | 48 => .array .int
  | 49 => .array .int
  | 50 => .array .int
  | 51 => .array .int
  | 52 => .int
  | 53 => .int
  | 54 => .int
  | 55 => .array .int
  | 56 => .int
  | 57 => .int
  | 58 => .array .int
  | 59 => .int
  | 60 => .int
  | 61 => .int
  | _ => .int
abbrev wsX120 : List Cond := u_ws RX12 TX12 63
theorem nmX12 : ∀ a, a < 63 → ∀ b, b < 63 → a ≠ b → (TX12 a).2.1 ≠ (TX12 b).2.1 := by decide +kernel
theorem tyX12_ok : ∀ k, k < 63 → parseFieldDescriptor (TX12 k).2.2.1 = some (tyX12 k) := by decide +kernel
abbrev cX12_init : ByteArray := prog_14_method_1_code
def yX12_init : MethodName := ⟨RX12, "<init>", "()V"⟩
abbrev cX12_thrown : ByteArray := prog_14_method_2_code
def yX12_thrown : MethodName := ⟨RX12, "thrown", "()I"⟩
abbrev cX12_refuse : ByteArray := prog_14_method_3_code
def yX12_refuse : MethodName := ⟨RX12, "refuse", "()I"⟩
abbrev cX12_come : ByteArray := prog_14_method_4_code
def yX12_come : MethodName := ⟨RX12, "come", "(I)V"⟩
abbrev cX12_feed : ByteArray := prog_14_method_5_code
def yX12_feed : MethodName := ⟨RX12, "feed", "(IIIII)I"⟩
abbrev cX12_end : ByteArray := prog_14_method_6_code
def yX12_end : MethodName := ⟨RX12, "end", "(I)Z"⟩
abbrev cX12_take : ByteArray := prog_14_method_7_code
def yX12_take : MethodName := ⟨RX12, "take", "()I"⟩
abbrev cX12_isIn : ByteArray := prog_14_method_8_code
def yX12_isIn : MethodName := ⟨RX12, "isIn", "(III)Z"⟩
abbrev cX12_has : ByteArray := prog_14_method_9_code
def yX12_has : MethodName := ⟨RX12, "has", "(II)Z"⟩
abbrev cX12_bits : ByteArray := prog_14_method_10_code
def yX12_bits : MethodName := ⟨RX12, "bits", "(I)I"⟩
abbrev cX12_byteAt : ByteArray := prog_14_method_11_code
def yX12_byteAt : MethodName := ⟨RX12, "byteAt", "(I)I"⟩
abbrev cX12_isDigit : ByteArray := prog_14_method_12_code
def yX12_isDigit : MethodName := ⟨RX12, "isDigit", "(I)Z"⟩
abbrev cX12_isLetter : ByteArray := prog_14_method_13_code
def yX12_isLetter : MethodName := ⟨RX12, "isLetter", "(I)Z"⟩
abbrev cX12_go : ByteArray := prog_14_method_14_code
def yX12_go : MethodName := ⟨RX12, "go", "()V"⟩
abbrev cX12_spelt : ByteArray := prog_14_method_15_code
def yX12_spelt : MethodName := ⟨RX12, "spelt", "(IIIII)J"⟩
abbrev cX12_wordOf : ByteArray := prog_14_method_16_code
def yX12_wordOf : MethodName := ⟨RX12, "wordOf", "(I)J"⟩
abbrev cX12_isWord : ByteArray := prog_14_method_17_code
def yX12_isWord : MethodName := ⟨RX12, "isWord", "(I)Z"⟩
abbrev cX12_isSign : ByteArray := prog_14_method_18_code
def yX12_isSign : MethodName := ⟨RX12, "isSign", "(I)Z"⟩
abbrev cX12_isName : ByteArray := prog_14_method_19_code
def yX12_isName : MethodName := ⟨RX12, "isName", "()Z"⟩
abbrev cX12_bad : ByteArray := prog_14_method_20_code
def yX12_bad : MethodName := ⟨RX12, "bad", "(I)Z"⟩
abbrev cX12_readNumber : ByteArray := prog_14_method_21_code
def yX12_readNumber : MethodName := ⟨RX12, "readNumber", "(II)Z"⟩
abbrev cX12_readEnd : ByteArray := prog_14_method_22_code
def yX12_readEnd : MethodName := ⟨RX12, "readEnd", "()Z"⟩
abbrev cX12_begin : ByteArray := prog_14_method_23_code
def yX12_begin : MethodName := ⟨RX12, "begin", "(I)V"⟩
abbrev cX12_lay : ByteArray := prog_14_method_24_code
def yX12_lay : MethodName := ⟨RX12, "lay", "()V"⟩
abbrev cX12_chaps : ByteArray := prog_14_method_25_code
def yX12_chaps : MethodName := ⟨RX12, "chaps", "()I"⟩
abbrev cX12_readers : ByteArray := prog_14_method_26_code
def yX12_readers : MethodName := ⟨RX12, "readers", "()I"⟩
abbrev cX12_isChap : ByteArray := prog_14_method_27_code
def yX12_isChap : MethodName := ⟨RX12, "isChap", "(I)Z"⟩
abbrev cX12_isReader : ByteArray := prog_14_method_28_code
def yX12_isReader : MethodName := ⟨RX12, "isReader", "(I)Z"⟩
abbrev cX12_chapOf : ByteArray := prog_14_method_29_code
def yX12_chapOf : MethodName := ⟨RX12, "chapOf", "(II)I"⟩
abbrev cX12_readerOf : ByteArray := prog_14_method_30_code
def yX12_readerOf : MethodName := ⟨RX12, "readerOf", "(II)I"⟩
abbrev cX12_leanOf : ByteArray := prog_14_method_31_code
def yX12_leanOf : MethodName := ⟨RX12, "leanOf", "(II)I"⟩
abbrev cX12_findRead : ByteArray := prog_14_method_32_code
def yX12_findRead : MethodName := ⟨RX12, "findRead", "()I"⟩
abbrev cX12_readNew : ByteArray := prog_14_method_33_code
def yX12_readNew : MethodName := ⟨RX12, "readNew", "(I)Z"⟩
abbrev cX12_readChap : ByteArray := prog_14_method_34_code
def yX12_readChap : MethodName := ⟨RX12, "readChap", "()Z"⟩
abbrev cX12_readWho : ByteArray := prog_14_method_35_code
def yX12_readWho : MethodName := ⟨RX12, "readWho", "()Z"⟩
abbrev cX12_readLine : ByteArray := prog_14_method_36_code
def yX12_readLine : MethodName := ⟨RX12, "readLine", "()Z"⟩
abbrev cX12_book : ByteArray := prog_14_method_37_code
def yX12_book : MethodName := ⟨RX12, "book", "()I"⟩
abbrev cX12_fault : ByteArray := prog_14_method_38_code
def yX12_fault : MethodName := ⟨RX12, "fault", "()I"⟩
abbrev cX12_chap : ByteArray := prog_14_method_39_code
def yX12_chap : MethodName := ⟨RX12, "chap", "(II)I"⟩
abbrev cX12_leans : ByteArray := prog_14_method_40_code
def yX12_leans : MethodName := ⟨RX12, "leans", "(II)I"⟩
abbrev cX12_reader : ByteArray := prog_14_method_41_code
def yX12_reader : MethodName := ⟨RX12, "reader", "(II)I"⟩
abbrev cX12_addAct : ByteArray := prog_14_method_42_code
def yX12_addAct : MethodName := ⟨RX12, "addAct", "(IIII)Z"⟩
abbrev cX12_plans : ByteArray := prog_14_method_43_code
def yX12_plans : MethodName := ⟨RX12, "plans", "()I"⟩
abbrev cX12_named : ByteArray := prog_14_method_44_code
def yX12_named : MethodName := ⟨RX12, "named", "(II)I"⟩
abbrev cX12_readNamed : ByteArray := prog_14_method_45_code
def yX12_readNamed : MethodName := ⟨RX12, "readNamed", "(II)Z"⟩
abbrev cX12_readListeners : ByteArray := prog_14_method_46_code
def yX12_readListeners : MethodName := ⟨RX12, "readListeners", "(I)Z"⟩
abbrev cX12_readAct : ByteArray := prog_14_method_47_code
def yX12_readAct : MethodName := ⟨RX12, "readAct", "()Z"⟩
abbrev cX12_plan : ByteArray := prog_14_method_48_code
def yX12_plan : MethodName := ⟨RX12, "plan", "()I"⟩
abbrev cX12_act : ByteArray := prog_14_method_49_code
def yX12_act : MethodName := ⟨RX12, "act", "(II)I"⟩
abbrev cX12_dawn : ByteArray := prog_14_method_50_code
def yX12_dawn : MethodName := ⟨RX12, "dawn", "()V"⟩
abbrev cX12_lackOf : ByteArray := prog_14_method_51_code
def yX12_lackOf : MethodName := ⟨RX12, "lackOf", "(II)I"⟩
abbrev cX12_up : ByteArray := prog_14_method_52_code
def yX12_up : MethodName := ⟨RX12, "up", "(II)I"⟩
abbrev cX12_timeToRead : ByteArray := prog_14_method_53_code
def yX12_timeToRead : MethodName := ⟨RX12, "timeToRead", "(II)I"⟩
abbrev cX12_timeToTell : ByteArray := prog_14_method_54_code
def yX12_timeToTell : MethodName := ⟨RX12, "timeToTell", "(II)I"⟩
abbrev cX12_reads : ByteArray := prog_14_method_55_code
def yX12_reads : MethodName := ⟨RX12, "reads", "(II)V"⟩
abbrev cX12_given : ByteArray := prog_14_method_56_code
def yX12_given : MethodName := ⟨RX12, "given", "(IIZII)I"⟩
abbrev cX12_gets : ByteArray := prog_14_method_57_code
def yX12_gets : MethodName := ⟨RX12, "gets", "(IIII)V"⟩
abbrev cX12_wrong : ByteArray := prog_14_method_58_code
def yX12_wrong : MethodName := ⟨RX12, "wrong", "(IIII)I"⟩
abbrev cX12_does : ByteArray := prog_14_method_59_code
def yX12_does : MethodName := ⟨RX12, "does", "(IIII)V"⟩
abbrev cX12_night : ByteArray := prog_14_method_60_code
def yX12_night : MethodName := ⟨RX12, "night", "()V"⟩
abbrev cX12_inAll : ByteArray := prog_14_method_61_code
def yX12_inAll : MethodName := ⟨RX12, "inAll", "(I)I"⟩
abbrev cX12_sum : ByteArray := prog_14_method_62_code
def yX12_sum : MethodName := ⟨RX12, "sum", "(I)I"⟩
abbrev cX12_run : ByteArray := prog_14_method_63_code
def yX12_run : MethodName := ⟨RX12, "run", "()I"⟩
abbrev cX12_why : ByteArray := prog_14_method_64_code
def yX12_why : MethodName := ⟨RX12, "why", "()I"⟩
abbrev cX12_known : ByteArray := prog_14_method_65_code
def yX12_known : MethodName := ⟨RX12, "known", "(II)I"⟩
abbrev cX12_after : ByteArray := prog_14_method_66_code
def yX12_after : MethodName := ⟨RX12, "after", "(II)I"⟩
abbrev cX12_lacking : ByteArray := prog_14_method_67_code
def yX12_lacking : MethodName := ⟨RX12, "lacking", "()I"⟩
abbrev cX12_all : ByteArray := prog_14_method_68_code
def yX12_all : MethodName := ⟨RX12, "all", "(I)I"⟩
abbrev cX12_tries : ByteArray := prog_14_method_69_code
def yX12_tries : MethodName := ⟨RX12, "tries", "(IIII)Z"⟩
abbrev cX12_makeRows : ByteArray := prog_14_method_70_code
def yX12_makeRows : MethodName := ⟨RX12, "makeRows", "()V"⟩
abbrev cX12_idlest : ByteArray := prog_14_method_71_code
def yX12_idlest : MethodName := ⟨RX12, "idlest", "(I)I"⟩
abbrev cX12_makeLean : ByteArray := prog_14_method_72_code
def yX12_makeLean : MethodName := ⟨RX12, "makeLean", "(I)V"⟩
abbrev cX12_makeTwice : ByteArray := prog_14_method_73_code
def yX12_makeTwice : MethodName := ⟨RX12, "makeTwice", "(I)V"⟩
abbrev cX12_makeChain : ByteArray := prog_14_method_74_code
def yX12_makeChain : MethodName := ⟨RX12, "makeChain", "(I)V"⟩
abbrev cX12_makeRound : ByteArray := prog_14_method_75_code
def yX12_makeRound : MethodName := ⟨RX12, "makeRound", "(I)V"⟩
abbrev cX12_make : ByteArray := prog_14_method_76_code
def yX12_make : MethodName := ⟨RX12, "make", "(II)I"⟩
abbrev cX12_draw : ByteArray := prog_14_method_77_code
def yX12_draw : MethodName := ⟨RX12, "draw", "(I)I"⟩
abbrev cX12_drawn : ByteArray := prog_14_method_78_code
def yX12_drawn : MethodName := ⟨RX12, "drawn", "(II)I"⟩
abbrev cX12_tryReaders : ByteArray := prog_14_method_79_code
def yX12_tryReaders : MethodName := ⟨RX12, "tryReaders", "(I)V"⟩
abbrev cX12_best : ByteArray := prog_14_method_80_code
def yX12_best : MethodName := ⟨RX12, "best", "(II)I"⟩
abbrev cX12_bestOf : ByteArray := prog_14_method_81_code
def yX12_bestOf : MethodName := ⟨RX12, "bestOf", "(I)I"⟩
abbrev cX12_over : ByteArray := prog_14_method_82_code
def yX12_over : MethodName := ⟨RX12, "over", "(I)I"⟩
abbrev cX12_stretch : ByteArray := prog_14_method_83_code
def yX12_stretch : MethodName := ⟨RX12, "stretch", "(II)I"⟩
abbrev cX12_tryEnds : ByteArray := prog_14_method_84_code
def yX12_tryEnds : MethodName := ⟨RX12, "tryEnds", "(III)V"⟩
abbrev cX12_cut : ByteArray := prog_14_method_85_code
def yX12_cut : MethodName := ⟨RX12, "cut", "(II)I"⟩
abbrev cX12_cutAt : ByteArray := prog_14_method_86_code
def yX12_cutAt : MethodName := ⟨RX12, "cutAt", "(I)I"⟩
abbrev cX12_net : ByteArray := prog_14_method_87_code
def yX12_net : MethodName := ⟨RX12, "net", "(I)I"⟩
abbrev cX12_netSide : ByteArray := prog_14_method_88_code
def yX12_netSide : MethodName := ⟨RX12, "netSide", "()I"⟩
abbrev cX12_tryChain : ByteArray := prog_14_method_89_code
def yX12_tryChain : MethodName := ⟨RX12, "tryChain", "(IIII)V"⟩
abbrev cX12_chain : ByteArray := prog_14_method_90_code
def yX12_chain : MethodName := ⟨RX12, "chain", "()I"⟩
abbrev cX12_chainAt : ByteArray := prog_14_method_91_code
def yX12_chainAt : MethodName := ⟨RX12, "chainAt", "(I)I"⟩
abbrev cX12_alone : ByteArray := prog_14_method_92_code
def yX12_alone : MethodName := ⟨RX12, "alone", "(II)I"⟩
abbrev cX12_quickest : ByteArray := prog_14_method_93_code
def yX12_quickest : MethodName := ⟨RX12, "quickest", "(I)I"⟩
abbrev cX12_isShut : ByteArray := prog_14_method_94_code
def yX12_isShut : MethodName := ⟨RX12, "isShut", "(I)Z"⟩
abbrev cX12_leave : ByteArray := prog_14_method_95_code
def yX12_leave : MethodName := ⟨RX12, "leave", "(I)I"⟩
abbrev cX12_extra : ByteArray := prog_14_method_96_code
def yX12_extra : MethodName := ⟨RX12, "extra", "(I)I"⟩
abbrev cX12_ask : ByteArray := prog_14_method_97_code
def yX12_ask : MethodName := ⟨RX12, "ask", "()I"⟩
abbrev cX12_asked : ByteArray := prog_14_method_98_code
def yX12_asked : MethodName := ⟨RX12, "asked", "()I"⟩
abbrev cX12_seen : ByteArray := prog_14_method_99_code
def yX12_seen : MethodName := ⟨RX12, "seen", "(II)I"⟩
abbrev cX12_illNight : ByteArray := prog_14_method_100_code
def yX12_illNight : MethodName := ⟨RX12, "illNight", "(II)V"⟩
abbrev cX12_helps : ByteArray := prog_14_method_101_code
def yX12_helps : MethodName := ⟨RX12, "helps", "(III)V"⟩
abbrev cX12_ill : ByteArray := prog_14_method_102_code
def yX12_ill : MethodName := ⟨RX12, "ill", "(III)I"⟩
abbrev cX12_lays : ByteArray := prog_14_method_103_code
def yX12_lays : MethodName := ⟨RX12, "lays", "(IIII)I"⟩
abbrev cX12_readOr : ByteArray := prog_14_method_104_code
def yX12_readOr : MethodName := ⟨RX12, "readOr", "()Z"⟩
abbrev cX12_readAnd : ByteArray := prog_14_method_105_code
def yX12_readAnd : MethodName := ⟨RX12, "readAnd", "()Z"⟩
abbrev cX12_readOne : ByteArray := prog_14_method_106_code
def yX12_readOne : MethodName := ⟨RX12, "readOne", "()Z"⟩
abbrev cX12_readNot : ByteArray := prog_14_method_107_code
def yX12_readNot : MethodName := ⟨RX12, "readNot", "()Z"⟩
abbrev cX12_readBracket : ByteArray := prog_14_method_108_code
def yX12_readBracket : MethodName := ⟨RX12, "readBracket", "()Z"⟩
abbrev cX12_readOf : ByteArray := prog_14_method_109_code
def yX12_readOf : MethodName := ⟨RX12, "readOf", "(I)Z"⟩
abbrev cX12_readCompare : ByteArray := prog_14_method_110_code
def yX12_readCompare : MethodName := ⟨RX12, "readCompare", "(I)Z"⟩
abbrev cX12_sentence : ByteArray := prog_14_method_111_code
def yX12_sentence : MethodName := ⟨RX12, "sentence", "()I"⟩
abbrev cX12_compares : ByteArray := prog_14_method_112_code
def yX12_compares : MethodName := ⟨RX12, "compares", "(III)Z"⟩
abbrev cX12_isSo : ByteArray := prog_14_method_113_code
def yX12_isSo : MethodName := ⟨RX12, "isSo", "(II)Z"⟩
abbrev cX12_said : ByteArray := prog_14_method_114_code
def yX12_said : MethodName := ⟨RX12, "said", "()I"⟩
abbrev cX12_image : ByteArray := prog_14_method_115_code
def yX12_image : MethodName := ⟨RX12, "image", "(I)Z"⟩
abbrev cX12_restore : ByteArray := prog_14_method_116_code
def yX12_restore : MethodName := ⟨RX12, "restore", "(I)Z"⟩
abbrev cX12_count : ByteArray := prog_14_method_117_code
def yX12_count : MethodName := ⟨RX12, "count", "(I)I"⟩
def RJx145de : String := "java/io/Serializable"
def TJx145de : u_T := fun k => match k with
  | _ => ("", "", "", false)
def tyJx145de : Nat → FieldType := fun k => match k with
  | _ => .int
abbrev wsJx145de0 : List Cond := u_ws RJx145de TJx145de 0
theorem nmJx145de : ∀ a, a < 0 → ∀ b, b < 0 → a ≠ b → (TJx145de a).2.1 ≠ (TJx145de b).2.1 := by decide +kernel
theorem tyJx145de_ok : ∀ k, k < 0 → parseFieldDescriptor (TJx145de k).2.2.1 = some (tyJx145de k) := by decide +kernel
def RJx9f9b0 : String := "java/lang/CharSequence"
def TJx9f9b0 : u_T := fun k => match k with
  | _ => ("", "", "", false)
def tyJx9f9b0 : Nat → FieldType := fun k => match k with
  | _ => .int
abbrev wsJx9f9b00 : List Cond := u_ws RJx9f9b0 TJx9f9b0 0
theorem nmJx9f9b0 : ∀ a, a < 0 → ∀ b, b < 0 → a ≠ b → (TJx9f9b0 a).2.1 ≠ (TJx9f9b0 b).2.1 := by decide +kernel
theorem tyJx9f9b0_ok : ∀ k, k < 0 → parseFieldDescriptor (TJx9f9b0 k).2.2.1 = some (tyJx9f9b0 k) := by decide +kernel
def RJxb160c : String := "java/lang/Comparable"
def TJxb160c : u_T := fun k => match k with
  | _ => ("", "", "", false)
def tyJxb160c : Nat → FieldType := fun k => match k with
  | _ => .int
abbrev wsJxb160c0 : List Cond := u_ws RJxb160c TJxb160c 0
theorem nmJxb160c : ∀ a, a < 0 → ∀ b, b < 0 → a ≠ b → (TJxb160c a).2.1 ≠ (TJxb160c b).2.1 := by decide +kernel
theorem tyJxb160c_ok : ∀ k, k < 0 → parseFieldDescriptor (TJxb160c k).2.2.1 = some (tyJxb160c k) := by decide +kernel
def RJ6 : String := "java/lang/Integer"
def TJ6 : u_T := fun k => match k with
  | _ => ("", "", "", false)
def tyJ6 : Nat → FieldType := fun k => match k with
  | _ => .int
abbrev wsJ60 : List Cond := u_ws RJ6 TJ6 0
theorem nmJ6 : ∀ a, a < 0 → ∀ b, b < 0 → a ≠ b → (TJ6 a).2.1 ≠ (TJ6 b).2.1 := by decide +kernel
theorem tyJ6_ok : ∀ k, k < 0 → parseFieldDescriptor (TJ6 k).2.2.1 = some (tyJ6 k) := by decide +kernel
abbrev cJ6_bitCount_0f7a4 : ByteArray := prog_19_method_49_code
def yJ6_bitCount_0f7a4 : MethodName := ⟨RJ6, "bitCount", "(I)I"⟩
def RJ9 : String := "java/lang/Math"
def TJ9 : u_T := fun k => match k with
  | _ => ("", "", "", false)
def tyJ9 : Nat → FieldType := fun k => match k with
  | _ => .int
abbrev wsJ90 : List Cond := u_ws RJ9 TJ9 0
theorem nmJ9 : ∀ a, a < 0 → ∀ b, b < 0 → a ≠ b → (TJ9 a).2.1 ≠ (TJ9 b).2.1 := by decide +kernel
theorem tyJ9_ok : ∀ k, k < 0 → parseFieldDescriptor (TJ9 k).2.2.1 = some (tyJ9 k) := by decide +kernel
abbrev cJ9_max_7cf53 : ByteArray := prog_20_method_65_code
def yJ9_max_7cf53 : MethodName := ⟨RJ9, "max", "(II)I"⟩
abbrev cJ9_min_7cf53 : ByteArray := prog_20_method_69_code
def yJ9_min_7cf53 : MethodName := ⟨RJ9, "min", "(II)I"⟩
def RJ0 : String := "java/lang/String"
def TJ0 : u_T := fun k => match k with
  | _ => ("", "", "", false)
def tyJ0 : Nat → FieldType := fun k => match k with
  | _ => .int
abbrev wsJ00 : List Cond := u_ws RJ0 TJ0 0
theorem nmJ0 : ∀ a, a < 0 → ∀ b, b < 0 → a ≠ b → (TJ0 a).2.1 ≠ (TJ0 b).2.1 := by decide +kernel
theorem tyJ0_ok : ∀ k, k < 0 → parseFieldDescriptor (TJ0 k).2.2.1 = some (tyJ0 k) := by decide +kernel
abbrev cJ0_length_8abf5 : ByteArray := prog_22_method_54_code
def yJ0_length_8abf5 : MethodName := ⟨RJ0, "length", "()I"⟩
abbrev cJ0_charAt_5068e : ByteArray := prog_22_method_56_code
def yJ0_charAt_5068e : MethodName := ⟨RJ0, "charAt", "(I)C"⟩
abbrev cJ0_coder_7d493 : ByteArray := prog_22_method_152_code
def yJ0_coder_7d493 : MethodName := ⟨RJ0, "coder", "()B"⟩
abbrev cJ0_isLatin1_aae02 : ByteArray := prog_22_method_154_code
def yJ0_isLatin1_aae02 : MethodName := ⟨RJ0, "isLatin1", "()Z"⟩
abbrev cJ0_checkIndex_df160 : ByteArray := prog_22_method_155_code
def yJ0_checkIndex_df160 : MethodName := ⟨RJ0, "checkIndex", "(II)V"⟩
def RJ1 : String := "java/lang/StringLatin1"
def TJ1 : u_T := fun k => match k with
  | _ => ("", "", "", false)
def tyJ1 : Nat → FieldType := fun k => match k with
  | _ => .int
abbrev wsJ10 : List Cond := u_ws RJ1 TJ1 0
theorem nmJ1 : ∀ a, a < 0 → ∀ b, b < 0 → a ≠ b → (TJ1 a).2.1 ≠ (TJ1 b).2.1 := by decide +kernel
theorem tyJ1_ok : ∀ k, k < 0 → parseFieldDescriptor (TJ1 k).2.2.1 = some (tyJ1 k) := by decide +kernel
abbrev cJ1_charAt_3b067 : ByteArray := prog_23_method_2_code
def yJ1_charAt_3b067 : MethodName := ⟨RJ1, "charAt", "([BI)C"⟩
def RJ2 : String := "java/lang/StringUTF16"
def TJ2 : u_T := fun k => match k with
  | _ => ("", "", "", false)
def tyJ2 : Nat → FieldType := fun k => match k with
  | _ => .int
abbrev wsJ20 : List Cond := u_ws RJ2 TJ2 0
theorem nmJ2 : ∀ a, a < 0 → ∀ b, b < 0 → a ≠ b → (TJ2 a).2.1 ≠ (TJ2 b).2.1 := by decide +kernel
theorem tyJ2_ok : ∀ k, k < 0 → parseFieldDescriptor (TJ2 k).2.2.1 = some (tyJ2 k) := by decide +kernel
abbrev cJ2_getChar_3b067 : ByteArray := prog_24_method_5_code
def yJ2_getChar_3b067 : MethodName := ⟨RJ2, "getChar", "([BI)C"⟩
abbrev cJ2_length_9d52b : ByteArray := prog_24_method_6_code
def yJ2_length_9d52b : MethodName := ⟨RJ2, "length", "([B)I"⟩
abbrev cJ2_charAt_3b067 : ByteArray := prog_24_method_83_code
def yJ2_charAt_3b067 : MethodName := ⟨RJ2, "charAt", "([BI)C"⟩
abbrev cJ2_checkIndex_2214a : ByteArray := prog_24_method_91_code
def yJ2_checkIndex_2214a : MethodName := ⟨RJ2, "checkIndex", "(I[B)V"⟩
def RJ10 : String := "java/lang/System"
def TJ10 : u_T := fun k => match k with
  | _ => ("", "", "", false)
def tyJ10 : Nat → FieldType := fun k => match k with
  | _ => .int
abbrev wsJ100 : List Cond := u_ws RJ10 TJ10 0
theorem nmJ10 : ∀ a, a < 0 → ∀ b, b < 0 → a ≠ b → (TJ10 a).2.1 ≠ (TJ10 b).2.1 := by decide +kernel
theorem tyJ10_ok : ∀ k, k < 0 → parseFieldDescriptor (TJ10 k).2.2.1 = some (tyJ10 k) := by decide +kernel
def RJxfd54e : String := "java/lang/constant/Constable"
def TJxfd54e : u_T := fun k => match k with
  | _ => ("", "", "", false)
def tyJxfd54e : Nat → FieldType := fun k => match k with
  | _ => .int
abbrev wsJxfd54e0 : List Cond := u_ws RJxfd54e TJxfd54e 0
theorem nmJxfd54e : ∀ a, a < 0 → ∀ b, b < 0 → a ≠ b → (TJxfd54e a).2.1 ≠ (TJxfd54e b).2.1 := by decide +kernel
theorem tyJxfd54e_ok : ∀ k, k < 0 → parseFieldDescriptor (TJxfd54e k).2.2.1 = some (tyJxfd54e k) := by decide +kernel
def RJx3cf43 : String := "java/lang/constant/ConstantDesc"
def TJx3cf43 : u_T := fun k => match k with
  | _ => ("", "", "", false)
def tyJx3cf43 : Nat → FieldType := fun k => match k with
  | _ => .int
abbrev wsJx3cf430 : List Cond := u_ws RJx3cf43 TJx3cf43 0
theorem nmJx3cf43 : ∀ a, a < 0 → ∀ b, b < 0 → a ≠ b → (TJx3cf43 a).2.1 ≠ (TJx3cf43 b).2.1 := by decide +kernel
theorem tyJx3cf43_ok : ∀ k, k < 0 → parseFieldDescriptor (TJx3cf43 k).2.2.1 = some (tyJx3cf43 k) := by decide +kernel
def RJ3 : String := "jdk/internal/util/Preconditions"
def TJ3 : u_T := fun k => match k with
  | _ => ("", "", "", false)
def tyJ3 : Nat → FieldType := fun k => match k with
  | _ => .int
abbrev wsJ30 : List Cond := u_ws RJ3 TJ3 0
theorem nmJ3 : ∀ a, a < 0 → ∀ b, b < 0 → a ≠ b → (TJ3 a).2.1 ≠ (TJ3 b).2.1 := by decide +kernel
theorem tyJ3_ok : ∀ k, k < 0 → parseFieldDescriptor (TJ3 k).2.2.1 = some (tyJ3 k) := by decide +kernel
abbrev cJ3_checkIndex_8e157 : ByteArray := prog_30_method_11_code
def yJ3_checkIndex_8e157 : MethodName := ⟨RJ3, "checkIndex", "(IILjava/util/function/BiFunction;)I"⟩
def RL : String := "NineReadersLaw"
abbrev cL_chap : ByteArray := method_3_code
def yL_chap : MethodName := ⟨RL, "chap", "(LNineReaders;II[J)I"⟩
abbrev cL_reader : ByteArray := method_4_code
def yL_reader : MethodName := ⟨RL, "reader", "(LNineReaders;II[J)I"⟩
abbrev cL_act : ByteArray := method_5_code
def yL_act : MethodName := ⟨RL, "act", "(LNineReaders;II[J)I"⟩
abbrev cL_law : ByteArray := code
def yL_law : MethodName := ⟨RL, "law", "([I)Z"⟩
abbrev vwCl : List vw_C := [(RX0, TX0, 18), (RX1, TX1, 10), (RX2, TX2, 5), (RX3, TX3, 7), (RX4, TX4, 5), (RX5, TX5, 10), (RX6, TX6, 5), (RX7, TX7, 7), (RX8, TX8, 11), (RX9, TX9, 6), (RX10, TX10, 10), (RX11, TX11, 20), (RX12, TX12, 63)]
/-- the good words of the tables: every method's contract stands on all of them -/
def G_ : List Cond := lw_tbl.filter goodWord
theorem G_good {w : Cond} (h : w ∈ G_) : (w.onTables && w.keeps) = true ∨ ∃ ty, w = .arrayClass ty := good_of_word (List.mem_filter.mp h).2
theorem G_in : GoodIn lw_tbl G_ := fun w h => ⟨(List.mem_filter.mp h).1, G_good h⟩
theorem G_s {w : Cond} {i : Nat} (h : (k2_sels lw_privs)[i]? = some w) (hg : goodWord w = true) : w ∈ G_ := List.mem_filter.mpr ⟨List.mem_append_left _ (List.mem_of_getElem? h), hg⟩
theorem G_t {w : Cond} (h : w ∈ tables_1) (hg : goodWord w = true) : w ∈ G_ := List.mem_filter.mpr ⟨List.mem_append_right _ h, hg⟩
theorem G_1 {w : Cond} {i : Nat} (h : tables_1_1[i]? = some w) (hg : goodWord w = true) : w ∈ G_ := G_t (List.mem_append_left _ (List.mem_of_getElem? h)) hg
theorem G_2 {w : Cond} {i : Nat} (h : tables_1_2[i]? = some w) (hg : goodWord w = true) : w ∈ G_ := G_t (List.mem_append_right _ (List.mem_append_left _ (List.mem_of_getElem? h))) hg
theorem G_3 {w : Cond} {i : Nat} (h : tables_1_3[i]? = some w) (hg : goodWord w = true) : w ∈ G_ := G_t (List.mem_append_right _ (List.mem_append_right _ (List.mem_append_left _ (List.mem_of_getElem? h)))) hg
theorem G_4 {w : Cond} {i : Nat} (h : tables_1_4[i]? = some w) (hg : goodWord w = true) : w ∈ G_ := G_t (List.mem_append_right _ (List.mem_append_right _ (List.mem_append_right _ (List.mem_append_left _ (List.mem_of_getElem? h))))) hg
theorem G_5 {w : Cond} {i : Nat} (h : tables_1_5[i]? = some w) (hg : goodWord w = true) : w ∈ G_ := G_t (List.mem_append_right _ (List.mem_append_right _ (List.mem_append_right _ (List.mem_append_right _ (List.mem_append_left _ (List.mem_of_getElem? h)))))) hg
theorem G_6 {w : Cond} {i : Nat} (h : tables_1_6[i]? = some w) (hg : goodWord w = true) : w ∈ G_ := G_t (List.mem_append_right _ (List.mem_append_right _ (List.mem_append_right _ (List.mem_append_right _ (List.mem_append_right _ (List.mem_append_left _ (List.mem_of_getElem? h))))))) hg
theorem G_7 {w : Cond} {i : Nat} (h : tables_1_7[i]? = some w) (hg : goodWord w = true) : w ∈ G_ := G_t (List.mem_append_right _ (List.mem_append_right _ (List.mem_append_right _ (List.mem_append_right _ (List.mem_append_right _ (List.mem_append_right _ (List.mem_append_left _ (List.mem_of_getElem? h)))))))) hg
theorem G_8 {w : Cond} {i : Nat} (h : tables_1_8[i]? = some w) (hg : goodWord w = true) : w ∈ G_ := G_t (List.mem_append_right _ (List.mem_append_right _ (List.mem_append_right _ (List.mem_append_right _ (List.mem_append_right _ (List.mem_append_right _ (List.mem_append_right _ (List.mem_append_left _ (List.mem_of_getElem? h))))))))) hg
theorem G_9 {w : Cond} {i : Nat} (h : tables_1_9[i]? = some w) (hg : goodWord w = true) : w ∈ G_ := G_t (List.mem_append_right _ (List.mem_append_right _ (List.mem_append_right _ (List.mem_append_right _ (List.mem_append_right _ (List.mem_append_right _ (List.mem_append_right _ (List.mem_append_right _ (List.mem_of_getElem? h))))))))) hg
