section
-- ===== PART A: goes FIRST, ahead of the names: the tables' words, and 'selects' of the private methods out of them =====
/-- a private method of a class that the tables say can be made, by its rows of tables_1 -/
def lw_okq (q : MethodName × Nat) : Prop := (q.1.cls ≠ "java/lang/invoke/MethodHandle" ∧ q.1.cls ≠ "java/lang/invoke/VarHandle") ∧ Cond.instantiable q.1.cls q.2 ∈ tables_1 ∧ Cond.privateMethod q.1 ∈ tables_1 ∧ Cond.instanceMethod q.1 ∈ tables_1
theorem lw_p0 : lw_okq (⟨"WayGuesses$Machine", "write", "(IIIII)V"⟩, 8) := ⟨⟨by decide +kernel, by decide +kernel⟩, List.mem_of_getElem? (i := 25) (by decide +kernel), List.mem_of_getElem? (i := 128) (by decide +kernel), List.mem_of_getElem? (i := 129) (by decide +kernel)⟩
theorem lw_p1 : lw_okq (⟨"WayGuesses$Machine", "step", "()I"⟩, 8) := ⟨⟨by decide +kernel, by decide +kernel⟩, List.mem_of_getElem? (i := 25) (by decide +kernel), List.mem_of_getElem? (i := 159) (by decide +kernel), List.mem_of_getElem? (i := 160) (by decide +kernel)⟩
theorem lw_p2 : lw_okq (⟨"WayGuesses$Machine", "reckon", "(IIII)V"⟩, 8) := ⟨⟨by decide +kernel, by decide +kernel⟩, List.mem_of_getElem? (i := 25) (by decide +kernel), List.mem_of_getElem? (i := 163) (by decide +kernel), List.mem_of_getElem? (i := 164) (by decide +kernel)⟩
theorem lw_p3 : lw_okq (⟨"WayGuesses", "meet", "(II)V"⟩, 5) := ⟨⟨by decide +kernel, by decide +kernel⟩, List.mem_of_getElem? (i := 17) (by decide +kernel), List.mem_of_getElem? (i := 170) (by decide +kernel), List.mem_of_getElem? (i := 171) (by decide +kernel)⟩
theorem lw_p4 : lw_okq (⟨"WayGuesses$Row", "add", "(II)V"⟩, 8) := ⟨⟨by decide +kernel, by decide +kernel⟩, List.mem_of_getElem? (i := 63) (by decide +kernel), List.mem_of_getElem? (i := 174) (by decide +kernel), List.mem_of_getElem? (i := 175) (by decide +kernel)⟩
theorem lw_p5 : lw_okq (⟨"WayGuesses$Learnt", "counterWay", "(I)I"⟩, 10) := ⟨⟨by decide +kernel, by decide +kernel⟩, List.mem_of_getElem? (i := 210) (by decide +kernel), List.mem_of_getElem? (i := 208) (by decide +kernel), List.mem_of_getElem? (i := 209) (by decide +kernel)⟩
theorem lw_p6 : lw_okq (⟨"WayGuesses$Votes", "cellOf", "(II)I"⟩, 9) := ⟨⟨by decide +kernel, by decide +kernel⟩, List.mem_of_getElem? (i := 232) (by decide +kernel), List.mem_of_getElem? (i := 230) (by decide +kernel), List.mem_of_getElem? (i := 231) (by decide +kernel)⟩
theorem lw_p7 : lw_okq (⟨"WayGuesses$Weights", "sumAt", "(I)I"⟩, 9) := ⟨⟨by decide +kernel, by decide +kernel⟩, List.mem_of_getElem? (i := 244) (by decide +kernel), List.mem_of_getElem? (i := 242) (by decide +kernel), List.mem_of_getElem? (i := 243) (by decide +kernel)⟩
theorem lw_p8 : lw_okq (⟨"WayGuesses$Weights", "bitOf", "(I)I"⟩, 9) := ⟨⟨by decide +kernel, by decide +kernel⟩, List.mem_of_getElem? (i := 244) (by decide +kernel), List.mem_of_getElem? (i := 251) (by decide +kernel), List.mem_of_getElem? (i := 252) (by decide +kernel)⟩
theorem lw_p9 : lw_okq (⟨"WayGuesses$Learnt", "countAsked", "(IZ)V"⟩, 10) := ⟨⟨by decide +kernel, by decide +kernel⟩, List.mem_of_getElem? (i := 210) (by decide +kernel), List.mem_of_getElem? (i := 255) (by decide +kernel), List.mem_of_getElem? (i := 256) (by decide +kernel)⟩
theorem lw_p10 : lw_okq (⟨"WayGuesses$Learnt", "useSlot", "(II)V"⟩, 10) := ⟨⟨by decide +kernel, by decide +kernel⟩, List.mem_of_getElem? (i := 210) (by decide +kernel), List.mem_of_getElem? (i := 274) (by decide +kernel), List.mem_of_getElem? (i := 275) (by decide +kernel)⟩
theorem lw_p11 : lw_okq (⟨"WayGuesses$Learnt", "keepPair", "(I)V"⟩, 10) := ⟨⟨by decide +kernel, by decide +kernel⟩, List.mem_of_getElem? (i := 210) (by decide +kernel), List.mem_of_getElem? (i := 284) (by decide +kernel), List.mem_of_getElem? (i := 285) (by decide +kernel)⟩
theorem lw_p12 : lw_okq (⟨"WayGuesses$Learnt", "teachCounter", "(II)V"⟩, 10) := ⟨⟨by decide +kernel, by decide +kernel⟩, List.mem_of_getElem? (i := 210) (by decide +kernel), List.mem_of_getElem? (i := 294) (by decide +kernel), List.mem_of_getElem? (i := 295) (by decide +kernel)⟩
theorem lw_p13 : lw_okq (⟨"WayGuesses$Learnt", "addWay", "(II)V"⟩, 10) := ⟨⟨by decide +kernel, by decide +kernel⟩, List.mem_of_getElem? (i := 210) (by decide +kernel), List.mem_of_getElem? (i := 321) (by decide +kernel), List.mem_of_getElem? (i := 322) (by decide +kernel)⟩
theorem lw_p14 : lw_okq (⟨"WayGuesses$Row", "placeOf", "(I)I"⟩, 8) := ⟨⟨by decide +kernel, by decide +kernel⟩, List.mem_of_getElem? (i := 63) (by decide +kernel), List.mem_of_getElem? (i := 337) (by decide +kernel), List.mem_of_getElem? (i := 338) (by decide +kernel)⟩
theorem lw_p15 : lw_okq (⟨"WayGuesses$Row", "wayOf", "(I)I"⟩, 8) := ⟨⟨by decide +kernel, by decide +kernel⟩, List.mem_of_getElem? (i := 63) (by decide +kernel), List.mem_of_getElem? (i := 341) (by decide +kernel), List.mem_of_getElem? (i := 342) (by decide +kernel)⟩
def lw_privs_1 : List (MethodName × Nat) := [(⟨"WayGuesses$Machine", "write", "(IIIII)V"⟩, 8), (⟨"WayGuesses$Machine", "step", "()I"⟩, 8), (⟨"WayGuesses$Machine", "reckon", "(IIII)V"⟩, 8), (⟨"WayGuesses", "meet", "(II)V"⟩, 5), (⟨"WayGuesses$Row", "add", "(II)V"⟩, 8), (⟨"WayGuesses$Learnt", "counterWay", "(I)I"⟩, 10), (⟨"WayGuesses$Votes", "cellOf", "(II)I"⟩, 9), (⟨"WayGuesses$Weights", "sumAt", "(I)I"⟩, 9), (⟨"WayGuesses$Weights", "bitOf", "(I)I"⟩, 9), (⟨"WayGuesses$Learnt", "countAsked", "(IZ)V"⟩, 10), (⟨"WayGuesses$Learnt", "useSlot", "(II)V"⟩, 10), (⟨"WayGuesses$Learnt", "keepPair", "(I)V"⟩, 10), (⟨"WayGuesses$Learnt", "teachCounter", "(II)V"⟩, 10), (⟨"WayGuesses$Learnt", "addWay", "(II)V"⟩, 10), (⟨"WayGuesses$Row", "placeOf", "(I)I"⟩, 8), (⟨"WayGuesses$Row", "wayOf", "(I)I"⟩, 8)]
theorem lw_r1 : ∀ q ∈ lw_privs_1, lw_okq q := List.forall_mem_cons.mpr ⟨lw_p0, List.forall_mem_cons.mpr ⟨lw_p1, List.forall_mem_cons.mpr ⟨lw_p2, List.forall_mem_cons.mpr ⟨lw_p3, List.forall_mem_cons.mpr ⟨lw_p4, List.forall_mem_cons.mpr ⟨lw_p5, List.forall_mem_cons.mpr ⟨lw_p6, List.forall_mem_cons.mpr ⟨lw_p7, List.forall_mem_cons.mpr ⟨lw_p8, List.forall_mem_cons.mpr ⟨lw_p9, List.forall_mem_cons.mpr ⟨lw_p10, List.forall_mem_cons.mpr ⟨lw_p11, List.forall_mem_cons.mpr ⟨lw_p12, List.forall_mem_cons.mpr ⟨lw_p13, List.forall_mem_cons.mpr ⟨lw_p14, List.forall_mem_cons.mpr ⟨lw_p15, fun _ h => absurd h List.not_mem_nil⟩⟩⟩⟩⟩⟩⟩⟩⟩⟩⟩⟩⟩⟩⟩⟩
theorem lw_p16 : lw_okq (⟨"WayGuesses", "isGuesser", "(I)Z"⟩, 5) := ⟨⟨by decide +kernel, by decide +kernel⟩, List.mem_of_getElem? (i := 17) (by decide +kernel), List.mem_of_getElem? (i := 349) (by decide +kernel), List.mem_of_getElem? (i := 350) (by decide +kernel)⟩
theorem lw_p17 : lw_okq (⟨"WayGuesses", "made", "(IIII)LWayGuesses$Guesser;"⟩, 5) := ⟨⟨by decide +kernel, by decide +kernel⟩, List.mem_of_getElem? (i := 17) (by decide +kernel), List.mem_of_getElem? (i := 356) (by decide +kernel), List.mem_of_getElem? (i := 357) (by decide +kernel)⟩
theorem lw_p18 : lw_okq (⟨"WayGuesses$Learnt", "twin", "()LWayGuesses$Learnt;"⟩, 10) := ⟨⟨by decide +kernel, by decide +kernel⟩, List.mem_of_getElem? (i := 210) (by decide +kernel), List.mem_of_getElem? (i := 424) (by decide +kernel), List.mem_of_getElem? (i := 425) (by decide +kernel)⟩
theorem lw_p19 : lw_okq (⟨"WayGuesses$Learnt", "take", "(LWayGuesses$Learnt;)V"⟩, 10) := ⟨⟨by decide +kernel, by decide +kernel⟩, List.mem_of_getElem? (i := 210) (by decide +kernel), List.mem_of_getElem? (i := 430) (by decide +kernel), List.mem_of_getElem? (i := 431) (by decide +kernel)⟩
theorem lw_p20 : lw_okq (⟨"WayGuesses$Row", "usualWay", "(I)I"⟩, 8) := ⟨⟨by decide +kernel, by decide +kernel⟩, List.mem_of_getElem? (i := 63) (by decide +kernel), List.mem_of_getElem? (i := 610) (by decide +kernel), List.mem_of_getElem? (i := 611) (by decide +kernel)⟩
theorem lw_p21 : lw_okq (⟨"WayGuesses$Row", "count", "(II)I"⟩, 8) := ⟨⟨by decide +kernel, by decide +kernel⟩, List.mem_of_getElem? (i := 63) (by decide +kernel), List.mem_of_getElem? (i := 614) (by decide +kernel), List.mem_of_getElem? (i := 615) (by decide +kernel)⟩
theorem lw_p22 : lw_okq (⟨"WayGuesses", "groupOf", "(I)I"⟩, 5) := ⟨⟨by decide +kernel, by decide +kernel⟩, List.mem_of_getElem? (i := 17) (by decide +kernel), List.mem_of_getElem? (i := 679) (by decide +kernel), List.mem_of_getElem? (i := 680) (by decide +kernel)⟩
theorem lw_p23 : lw_okq (⟨"WayGuesses$Row", "survey", "(IZ)V"⟩, 8) := ⟨⟨by decide +kernel, by decide +kernel⟩, List.mem_of_getElem? (i := 63) (by decide +kernel), List.mem_of_getElem? (i := 712) (by decide +kernel), List.mem_of_getElem? (i := 713) (by decide +kernel)⟩
theorem lw_p24 : lw_okq (⟨"WayGuesses$Row", "tally", "(II)V"⟩, 8) := ⟨⟨by decide +kernel, by decide +kernel⟩, List.mem_of_getElem? (i := 63) (by decide +kernel), List.mem_of_getElem? (i := 719) (by decide +kernel), List.mem_of_getElem? (i := 720) (by decide +kernel)⟩
theorem lw_p25 : lw_okq (⟨"WayGuesses$Row", "clear", "()V"⟩, 8) := ⟨⟨by decide +kernel, by decide +kernel⟩, List.mem_of_getElem? (i := 63) (by decide +kernel), List.mem_of_getElem? (i := 747) (by decide +kernel), List.mem_of_getElem? (i := 748) (by decide +kernel)⟩
theorem lw_p26 : lw_okq (⟨"WayGuessesModel", "step", "()V"⟩, 25) := ⟨⟨by decide +kernel, by decide +kernel⟩, List.mem_of_getElem? (i := 751) (by decide +kernel), List.mem_of_getElem? (i := 869) (by decide +kernel), List.mem_of_getElem? (i := 870) (by decide +kernel)⟩
theorem lw_p27 : lw_okq (⟨"WayGuessesModel", "comes", "(II)V"⟩, 25) := ⟨⟨by decide +kernel, by decide +kernel⟩, List.mem_of_getElem? (i := 751) (by decide +kernel), List.mem_of_getElem? (i := 873) (by decide +kernel), List.mem_of_getElem? (i := 874) (by decide +kernel)⟩
theorem lw_p28 : lw_okq (⟨"WayGuessesModel", "asks", "(III)V"⟩, 25) := ⟨⟨by decide +kernel, by decide +kernel⟩, List.mem_of_getElem? (i := 751) (by decide +kernel), List.mem_of_getElem? (i := 877) (by decide +kernel), List.mem_of_getElem? (i := 878) (by decide +kernel)⟩
theorem lw_p29 : lw_okq (⟨"WayGuessesModel", "clashes1", "(I)Z"⟩, 25) := ⟨⟨by decide +kernel, by decide +kernel⟩, List.mem_of_getElem? (i := 751) (by decide +kernel), List.mem_of_getElem? (i := 881) (by decide +kernel), List.mem_of_getElem? (i := 882) (by decide +kernel)⟩
theorem lw_p30 : lw_okq (⟨"WayGuessesModel", "clash", "(II)V"⟩, 25) := ⟨⟨by decide +kernel, by decide +kernel⟩, List.mem_of_getElem? (i := 751) (by decide +kernel), List.mem_of_getElem? (i := 885) (by decide +kernel), List.mem_of_getElem? (i := 886) (by decide +kernel)⟩
theorem lw_p31 : lw_okq (⟨"WayGuessesModel", "counter", "(III)I"⟩, 25) := ⟨⟨by decide +kernel, by decide +kernel⟩, List.mem_of_getElem? (i := 751) (by decide +kernel), List.mem_of_getElem? (i := 889) (by decide +kernel), List.mem_of_getElem? (i := 890) (by decide +kernel)⟩
def lw_privs_2 : List (MethodName × Nat) := [(⟨"WayGuesses", "isGuesser", "(I)Z"⟩, 5), (⟨"WayGuesses", "made", "(IIII)LWayGuesses$Guesser;"⟩, 5), (⟨"WayGuesses$Learnt", "twin", "()LWayGuesses$Learnt;"⟩, 10), (⟨"WayGuesses$Learnt", "take", "(LWayGuesses$Learnt;)V"⟩, 10), (⟨"WayGuesses$Row", "usualWay", "(I)I"⟩, 8), (⟨"WayGuesses$Row", "count", "(II)I"⟩, 8), (⟨"WayGuesses", "groupOf", "(I)I"⟩, 5), (⟨"WayGuesses$Row", "survey", "(IZ)V"⟩, 8), (⟨"WayGuesses$Row", "tally", "(II)V"⟩, 8), (⟨"WayGuesses$Row", "clear", "()V"⟩, 8), (⟨"WayGuessesModel", "step", "()V"⟩, 25), (⟨"WayGuessesModel", "comes", "(II)V"⟩, 25), (⟨"WayGuessesModel", "asks", "(III)V"⟩, 25), (⟨"WayGuessesModel", "clashes1", "(I)Z"⟩, 25), (⟨"WayGuessesModel", "clash", "(II)V"⟩, 25), (⟨"WayGuessesModel", "counter", "(III)I"⟩, 25)]
theorem lw_r2 : ∀ q ∈ lw_privs_2, lw_okq q := List.forall_mem_cons.mpr ⟨lw_p16, List.forall_mem_cons.mpr ⟨lw_p17, List.forall_mem_cons.mpr ⟨lw_p18, List.forall_mem_cons.mpr ⟨lw_p19, List.forall_mem_cons.mpr ⟨lw_p20, List.forall_mem_cons.mpr ⟨lw_p21, List.forall_mem_cons.mpr ⟨lw_p22, List.forall_mem_cons.mpr ⟨lw_p23, List.forall_mem_cons.mpr ⟨lw_p24, List.forall_mem_cons.mpr ⟨lw_p25, List.forall_mem_cons.mpr ⟨lw_p26, List.forall_mem_cons.mpr ⟨lw_p27, List.forall_mem_cons.mpr ⟨lw_p28, List.forall_mem_cons.mpr ⟨lw_p29, List.forall_mem_cons.mpr ⟨lw_p30, List.forall_mem_cons.mpr ⟨lw_p31, fun _ h => absurd h List.not_mem_nil⟩⟩⟩⟩⟩⟩⟩⟩⟩⟩⟩⟩⟩⟩⟩⟩
theorem lw_p32 : lw_okq (⟨"WayGuessesModel", "own", "(IIII)I"⟩, 25) := ⟨⟨by decide +kernel, by decide +kernel⟩, List.mem_of_getElem? (i := 751) (by decide +kernel), List.mem_of_getElem? (i := 896) (by decide +kernel), List.mem_of_getElem? (i := 897) (by decide +kernel)⟩
theorem lw_p33 : lw_okq (⟨"WayGuessesModel", "sum", "(II)I"⟩, 25) := ⟨⟨by decide +kernel, by decide +kernel⟩, List.mem_of_getElem? (i := 751) (by decide +kernel), List.mem_of_getElem? (i := 900) (by decide +kernel), List.mem_of_getElem? (i := 901) (by decide +kernel)⟩
theorem lw_p34 : lw_okq (⟨"WayGuessesModel", "turn", "(II)V"⟩, 25) := ⟨⟨by decide +kernel, by decide +kernel⟩, List.mem_of_getElem? (i := 751) (by decide +kernel), List.mem_of_getElem? (i := 904) (by decide +kernel), List.mem_of_getElem? (i := 905) (by decide +kernel)⟩
theorem lw_p35 : lw_okq (⟨"WayGuessesModel", "weigh", "(III)V"⟩, 25) := ⟨⟨by decide +kernel, by decide +kernel⟩, List.mem_of_getElem? (i := 751) (by decide +kernel), List.mem_of_getElem? (i := 908) (by decide +kernel), List.mem_of_getElem? (i := 909) (by decide +kernel)⟩
theorem lw_p36 : lw_okq (⟨"WayGuessesModel", "loop", "(II)V"⟩, 25) := ⟨⟨by decide +kernel, by decide +kernel⟩, List.mem_of_getElem? (i := 751) (by decide +kernel), List.mem_of_getElem? (i := 912) (by decide +kernel), List.mem_of_getElem? (i := 913) (by decide +kernel)⟩
theorem lw_p37 : lw_okq (⟨"WayGuessesModel", "isGuesser", "(I)Z"⟩, 25) := ⟨⟨by decide +kernel, by decide +kernel⟩, List.mem_of_getElem? (i := 751) (by decide +kernel), List.mem_of_getElem? (i := 929) (by decide +kernel), List.mem_of_getElem? (i := 930) (by decide +kernel)⟩
theorem lw_p38 : lw_okq (⟨"WayGuessesModel", "begin", "(I)V"⟩, 25) := ⟨⟨by decide +kernel, by decide +kernel⟩, List.mem_of_getElem? (i := 751) (by decide +kernel), List.mem_of_getElem? (i := 936) (by decide +kernel), List.mem_of_getElem? (i := 937) (by decide +kernel)⟩
theorem lw_p39 : lw_okq (⟨"WayGuessesModel", "times", "(II)I"⟩, 25) := ⟨⟨by decide +kernel, by decide +kernel⟩, List.mem_of_getElem? (i := 751) (by decide +kernel), List.mem_of_getElem? (i := 952) (by decide +kernel), List.mem_of_getElem? (i := 953) (by decide +kernel)⟩
theorem lw_p40 : lw_okq (⟨"WayGuessesModel", "missesOf", "(I)I"⟩, 25) := ⟨⟨by decide +kernel, by decide +kernel⟩, List.mem_of_getElem? (i := 751) (by decide +kernel), List.mem_of_getElem? (i := 960) (by decide +kernel), List.mem_of_getElem? (i := 961) (by decide +kernel)⟩
theorem lw_p41 : lw_okq (⟨"WayGuessesModel", "countAll", "(IZ)V"⟩, 25) := ⟨⟨by decide +kernel, by decide +kernel⟩, List.mem_of_getElem? (i := 751) (by decide +kernel), List.mem_of_getElem? (i := 1000) (by decide +kernel), List.mem_of_getElem? (i := 1001) (by decide +kernel)⟩
def lw_privs_3 : List (MethodName × Nat) := [(⟨"WayGuessesModel", "own", "(IIII)I"⟩, 25), (⟨"WayGuessesModel", "sum", "(II)I"⟩, 25), (⟨"WayGuessesModel", "turn", "(II)V"⟩, 25), (⟨"WayGuessesModel", "weigh", "(III)V"⟩, 25), (⟨"WayGuessesModel", "loop", "(II)V"⟩, 25), (⟨"WayGuessesModel", "isGuesser", "(I)Z"⟩, 25), (⟨"WayGuessesModel", "begin", "(I)V"⟩, 25), (⟨"WayGuessesModel", "times", "(II)I"⟩, 25), (⟨"WayGuessesModel", "missesOf", "(I)I"⟩, 25), (⟨"WayGuessesModel", "countAll", "(IZ)V"⟩, 25)]
theorem lw_r3 : ∀ q ∈ lw_privs_3, lw_okq q := List.forall_mem_cons.mpr ⟨lw_p32, List.forall_mem_cons.mpr ⟨lw_p33, List.forall_mem_cons.mpr ⟨lw_p34, List.forall_mem_cons.mpr ⟨lw_p35, List.forall_mem_cons.mpr ⟨lw_p36, List.forall_mem_cons.mpr ⟨lw_p37, List.forall_mem_cons.mpr ⟨lw_p38, List.forall_mem_cons.mpr ⟨lw_p39, List.forall_mem_cons.mpr ⟨lw_p40, List.forall_mem_cons.mpr ⟨lw_p41, fun _ h => absurd h List.not_mem_nil⟩⟩⟩⟩⟩⟩⟩⟩⟩⟩
def lw_privs : List (MethodName × Nat) := lw_privs_1 ++ (lw_privs_2 ++ (lw_privs_3))
def lw_tbl : List Cond := k2_sels lw_privs ++ tables_1
theorem lw_privs_ok : ∀ q ∈ lw_privs, lw_okq q := by
  show ∀ q ∈ lw_privs_1 ++ (lw_privs_2 ++ (lw_privs_3)), lw_okq q
  exact List.forall_mem_append.mpr ⟨lw_r1, List.forall_mem_append.mpr ⟨lw_r2, lw_r3⟩⟩
-- ===== end of PART A; then your names; then what follows =====
end
section
def RX0 : String := "WayGuesses$Chooser"
def TX0 : u_T := fun k => match k with
  | 0 => ("WayGuesses$Guesser", "hints", "[I", true)
  | 1 => ("WayGuesses$Guesser", "kept", "[LWayGuesses$Learnt;", true)
  | 2 => ("WayGuesses$Guesser", "first", "LWayGuesses$Learnt;", true)
  | 3 => ("WayGuesses$Guesser", "now", "LWayGuesses$Learnt;", true)
  | 4 => ("WayGuesses$Guesser", "tables", "I", true)
  | 5 => ("WayGuesses$Guesser", "width", "I", true)
  | 6 => ("WayGuesses$Guesser", "said", "I", false)
  | 7 => ("WayGuesses$Chooser", "one", "LWayGuesses$Guesser;", true)
  | 8 => ("WayGuesses$Chooser", "other", "LWayGuesses$Guesser;", true)
  | 9 => ("WayGuesses$Chooser", "asked", "I", true)
  | _ => ("WayGuesses$Chooser", "mask", "I", true)
def tyX0 : Nat → FieldType := fun k => match k with
  | 0 => .array .int
  | 1 => .array (.object "WayGuesses$Learnt")
  | 2 => .object "WayGuesses$Learnt"
  | 3 => .object "WayGuesses$Learnt"
  | 4 => .int
  | 5 => .int
  | 6 => .int
  | 7 => .object "WayGuesses$Guesser"
  | 8 => .object "WayGuesses$Guesser"
  | 9 => .int
  | _ => .int
abbrev wsX00 : List Cond := u_ws RX0 TX0 11
theorem nmX0 : ∀ a, a < 11 → ∀ b, b < 11 → a ≠ b → (TX0 a).2.1 ≠ (TX0 b).2.1 := by decide +kernel
theorem tyX0_ok : ∀ k, k < 11 → parseFieldDescriptor (TX0 k).2.2.1 = some (tyX0 k) := by decide +kernel
abbrev cX0_init : ByteArray := prog_2_method_1_code
def yX0_init : MethodName := ⟨RX0, "<init>", "(LWayGuesses$Guesser;LWayGuesses$Guesser;II)V"⟩
abbrev cX0_asks : ByteArray := prog_2_method_2_code
def yX0_asks : MethodName := ⟨RX0, "asks", "()I"⟩
abbrev cX0_slotOf : ByteArray := prog_2_method_3_code
def yX0_slotOf : MethodName := ⟨RX0, "slotOf", "(I)I"⟩
abbrev cX0_ownWay : ByteArray := prog_2_method_4_code
def yX0_ownWay : MethodName := ⟨RX0, "ownWay", "(I)I"⟩
abbrev cX0_learn : ByteArray := prog_2_method_5_code
def yX0_learn : MethodName := ⟨RX0, "learn", "(II)V"⟩
def RX1 : String := "WayGuesses$Counters"
def TX1 : u_T := fun k => match k with
  | 0 => ("WayGuesses$Guesser", "hints", "[I", true)
  | 1 => ("WayGuesses$Guesser", "kept", "[LWayGuesses$Learnt;", true)
  | 2 => ("WayGuesses$Guesser", "first", "LWayGuesses$Learnt;", true)
  | 3 => ("WayGuesses$Guesser", "now", "LWayGuesses$Learnt;", true)
  | 4 => ("WayGuesses$Guesser", "tables", "I", true)
  | 5 => ("WayGuesses$Guesser", "width", "I", true)
  | 6 => ("WayGuesses$Guesser", "said", "I", false)
  | 7 => ("WayGuesses$Counters", "mask", "I", true)
  | 8 => ("WayGuesses$Counters", "historyMask", "I", true)
  | 9 => ("WayGuesses$Counters", "own", "Z", true)
  | _ => ("WayGuesses$Counters", "placeTimes", "I", true)
def tyX1 : Nat → FieldType := fun k => match k with
  | 0 => .array .int
  | 1 => .array (.object "WayGuesses$Learnt")
  | 2 => .object "WayGuesses$Learnt"
  | 3 => .object "WayGuesses$Learnt"
  | 4 => .int
  | 5 => .int
  | 6 => .int
  | 7 => .int
  | 8 => .int
  | 9 => .boolean
  | _ => .int
abbrev wsX10 : List Cond := u_ws RX1 TX1 11
theorem nmX1 : ∀ a, a < 11 → ∀ b, b < 11 → a ≠ b → (TX1 a).2.1 ≠ (TX1 b).2.1 := by decide +kernel
theorem tyX1_ok : ∀ k, k < 11 → parseFieldDescriptor (TX1 k).2.2.1 = some (tyX1 k) := by decide +kernel
abbrev cX1_init : ByteArray := prog_3_method_1_code
def yX1_init : MethodName := ⟨RX1, "<init>", "(IIZI)V"⟩
abbrev cX1_slotOf : ByteArray := prog_3_method_2_code
def yX1_slotOf : MethodName := ⟨RX1, "slotOf", "(I)I"⟩
abbrev cX1_ownWay : ByteArray := prog_3_method_3_code
def yX1_ownWay : MethodName := ⟨RX1, "ownWay", "(I)I"⟩
abbrev cX1_learn : ByteArray := prog_3_method_4_code
def yX1_learn : MethodName := ⟨RX1, "learn", "(II)V"⟩
def RX2 : String := "WayGuesses$Fixed"
def TX2 : u_T := fun k => match k with
  | 0 => ("WayGuesses$Guesser", "hints", "[I", true)
  | 1 => ("WayGuesses$Guesser", "kept", "[LWayGuesses$Learnt;", true)
  | 2 => ("WayGuesses$Guesser", "first", "LWayGuesses$Learnt;", true)
  | 3 => ("WayGuesses$Guesser", "now", "LWayGuesses$Learnt;", true)
  | 4 => ("WayGuesses$Guesser", "tables", "I", true)
  | 5 => ("WayGuesses$Guesser", "width", "I", true)
  | 6 => ("WayGuesses$Guesser", "said", "I", false)
  | 7 => ("WayGuesses$Fixed", "machine", "LWayGuesses$Machine;", true)
  | _ => ("WayGuesses$Fixed", "rule", "I", true)
def tyX2 : Nat → FieldType := fun k => match k with
  | 0 => .array .int
  | 1 => .array (.object "WayGuesses$Learnt")
  | 2 => .object "WayGuesses$Learnt"
  | 3 => .object "WayGuesses$Learnt"
  | 4 => .int
  | 5 => .int
  | 6 => .int
  | 7 => .object "WayGuesses$Machine"
  | _ => .int
abbrev wsX20 : List Cond := u_ws RX2 TX2 9
theorem nmX2 : ∀ a, a < 9 → ∀ b, b < 9 → a ≠ b → (TX2 a).2.1 ≠ (TX2 b).2.1 := by decide +kernel
theorem tyX2_ok : ∀ k, k < 9 → parseFieldDescriptor (TX2 k).2.2.1 = some (tyX2 k) := by decide +kernel
abbrev cX2_init : ByteArray := prog_4_method_1_code
def yX2_init : MethodName := ⟨RX2, "<init>", "(LWayGuesses$Machine;I)V"⟩
abbrev cX2_ownWay : ByteArray := prog_4_method_2_code
def yX2_ownWay : MethodName := ⟨RX2, "ownWay", "(I)I"⟩
abbrev cX2_learn : ByteArray := prog_4_method_3_code
def yX2_learn : MethodName := ⟨RX2, "learn", "(II)V"⟩
abbrev cX2_slotOf : ByteArray := prog_4_method_4_code
def yX2_slotOf : MethodName := ⟨RX2, "slotOf", "(I)I"⟩
abbrev cX2_look : ByteArray := prog_4_method_5_code
def yX2_look : MethodName := ⟨RX2, "look", "(II)I"⟩
def RX3 : String := "WayGuesses$Guesser"
def TX3 : u_T := fun k => match k with
  | _ => ("", "", "", false)
def tyX3 : Nat → FieldType := fun k => match k with
  | _ => .int
abbrev wsX30 : List Cond := u_ws RX3 TX3 0
theorem nmX3 : ∀ a, a < 0 → ∀ b, b < 0 → a ≠ b → (TX3 a).2.1 ≠ (TX3 b).2.1 := by decide +kernel
theorem tyX3_ok : ∀ k, k < 0 → parseFieldDescriptor (TX3 k).2.2.1 = some (tyX3 k) := by decide +kernel
abbrev cX3_init : ByteArray := prog_5_method_1_code
def yX3_init : MethodName := ⟨RX3, "<init>", "(IIII)V"⟩
abbrev cX3_asks : ByteArray := prog_5_method_5_code
def yX3_asks : MethodName := ⟨RX3, "asks", "()I"⟩
abbrev cX3_canClash : ByteArray := prog_5_method_6_code
def yX3_canClash : MethodName := ⟨RX3, "canClash", "()Z"⟩
abbrev cX3_say : ByteArray := prog_5_method_7_code
def yX3_say : MethodName := ⟨RX3, "say", "(I)V"⟩
abbrev cX3_meetBranch : ByteArray := prog_5_method_8_code
def yX3_meetBranch : MethodName := ⟨RX3, "meetBranch", "(II)V"⟩
abbrev cX3_forget : ByteArray := prog_5_method_9_code
def yX3_forget : MethodName := ⟨RX3, "forget", "()V"⟩
abbrev cX3_look : ByteArray := prog_5_method_10_code
def yX3_look : MethodName := ⟨RX3, "look", "(II)I"⟩
def RX4 : String := "WayGuesses$Learnt"
def TX4 : u_T := fun k => match k with
  | 0 => ("WayGuesses$Learnt", "cells", "[I", true)
  | 1 => ("WayGuesses$Learnt", "lastPlaces", "[I", true)
  | 2 => ("WayGuesses$Learnt", "ownHistories", "[I", true)
  | 3 => ("WayGuesses$Learnt", "missedAt", "[I", true)
  | 4 => ("WayGuesses$Learnt", "pairs", "[I", true)
  | 5 => ("WayGuesses$Learnt", "history", "I", false)
  | 6 => ("WayGuesses$Learnt", "asked", "I", false)
  | 7 => ("WayGuesses$Learnt", "missed", "I", false)
  | 8 => ("WayGuesses$Learnt", "clashed", "I", false)
  | _ => ("WayGuesses$Learnt", "pairCount", "I", false)
def tyX4 : Nat → FieldType := fun k => match k with
  | 0 => .array .int
  | 1 => .array .int
  | 2 => .array .int
  | 3 => .array .int
  | 4 => .array .int
  | 5 => .int
  | 6 => .int
  | 7 => .int
  | 8 => .int
  | _ => .int
abbrev wsX40 : List Cond := u_ws RX4 TX4 10
theorem nmX4 : ∀ a, a < 10 → ∀ b, b < 10 → a ≠ b → (TX4 a).2.1 ≠ (TX4 b).2.1 := by decide +kernel
theorem tyX4_ok : ∀ k, k < 10 → parseFieldDescriptor (TX4 k).2.2.1 = some (tyX4 k) := by decide +kernel
abbrev cX4_init : ByteArray := prog_6_method_1_code
def yX4_init : MethodName := ⟨RX4, "<init>", "(II)V"⟩
abbrev cX4_twin : ByteArray := prog_6_method_2_code
def yX4_twin : MethodName := ⟨RX4, "twin", "()LWayGuesses$Learnt;"⟩
abbrev cX4_take : ByteArray := prog_6_method_3_code
def yX4_take : MethodName := ⟨RX4, "take", "(LWayGuesses$Learnt;)V"⟩
abbrev cX4_countAsked : ByteArray := prog_6_method_4_code
def yX4_countAsked : MethodName := ⟨RX4, "countAsked", "(IZ)V"⟩
abbrev cX4_useSlot : ByteArray := prog_6_method_5_code
def yX4_useSlot : MethodName := ⟨RX4, "useSlot", "(II)V"⟩
abbrev cX4_keepPair : ByteArray := prog_6_method_6_code
def yX4_keepPair : MethodName := ⟨RX4, "keepPair", "(I)V"⟩
abbrev cX4_addWay : ByteArray := prog_6_method_7_code
def yX4_addWay : MethodName := ⟨RX4, "addWay", "(II)V"⟩
abbrev cX4_counterWay : ByteArray := prog_6_method_8_code
def yX4_counterWay : MethodName := ⟨RX4, "counterWay", "(I)I"⟩
abbrev cX4_teachCounter : ByteArray := prog_6_method_9_code
def yX4_teachCounter : MethodName := ⟨RX4, "teachCounter", "(II)V"⟩
def RX5 : String := "WayGuesses$Loops"
def TX5 : u_T := fun k => match k with
  | 0 => ("WayGuesses$Guesser", "hints", "[I", true)
  | 1 => ("WayGuesses$Guesser", "kept", "[LWayGuesses$Learnt;", true)
  | 2 => ("WayGuesses$Guesser", "first", "LWayGuesses$Learnt;", true)
  | 3 => ("WayGuesses$Guesser", "now", "LWayGuesses$Learnt;", true)
  | 4 => ("WayGuesses$Guesser", "tables", "I", true)
  | 5 => ("WayGuesses$Guesser", "width", "I", true)
  | 6 => ("WayGuesses$Guesser", "said", "I", false)
  | _ => ("WayGuesses$Loops", "enough", "I", true)
def tyX5 : Nat → FieldType := fun k => match k with
  | 0 => .array .int
  | 1 => .array (.object "WayGuesses$Learnt")
  | 2 => .object "WayGuesses$Learnt"
  | 3 => .object "WayGuesses$Learnt"
  | 4 => .int
  | 5 => .int
  | 6 => .int
  | _ => .int
abbrev wsX50 : List Cond := u_ws RX5 TX5 8
theorem nmX5 : ∀ a, a < 8 → ∀ b, b < 8 → a ≠ b → (TX5 a).2.1 ≠ (TX5 b).2.1 := by decide +kernel
theorem tyX5_ok : ∀ k, k < 8 → parseFieldDescriptor (TX5 k).2.2.1 = some (tyX5 k) := by decide +kernel
abbrev cX5_init : ByteArray := prog_7_method_1_code
def yX5_init : MethodName := ⟨RX5, "<init>", "(I)V"⟩
abbrev cX5_ownWay : ByteArray := prog_7_method_2_code
def yX5_ownWay : MethodName := ⟨RX5, "ownWay", "(I)I"⟩
abbrev cX5_learn : ByteArray := prog_7_method_3_code
def yX5_learn : MethodName := ⟨RX5, "learn", "(II)V"⟩
abbrev cX5_slotOf : ByteArray := prog_7_method_4_code
def yX5_slotOf : MethodName := ⟨RX5, "slotOf", "(I)I"⟩
def RX6 : String := "WayGuesses$Machine"
def TX6 : u_T := fun k => match k with
  | 0 => ("WayGuesses$Machine", "kinds", "[I", true)
  | 1 => ("WayGuesses$Machine", "firsts", "[I", true)
  | 2 => ("WayGuesses$Machine", "seconds", "[I", true)
  | 3 => ("WayGuesses$Machine", "numbers", "[I", true)
  | 4 => ("WayGuesses$Machine", "registers", "[I", true)
  | 5 => ("WayGuesses$Machine", "memory", "[I", true)
  | 6 => ("WayGuesses$Machine", "standing", "I", false)
  | _ => ("WayGuesses$Machine", "steps", "I", false)
def tyX6 : Nat → FieldType := fun k => match k with
  | 0 => .array .int
  | 1 => .array .int
  | 2 => .array .int
  | 3 => .array .int
  | 4 => .array .int
  | 5 => .array .int
  | 6 => .int
  | _ => .int
abbrev wsX60 : List Cond := u_ws RX6 TX6 8
theorem nmX6 : ∀ a, a < 8 → ∀ b, b < 8 → a ≠ b → (TX6 a).2.1 ≠ (TX6 b).2.1 := by decide +kernel
theorem tyX6_ok : ∀ k, k < 8 → parseFieldDescriptor (TX6 k).2.2.1 = some (tyX6 k) := by decide +kernel
abbrev cX6_init : ByteArray := prog_8_method_1_code
def yX6_init : MethodName := ⟨RX6, "<init>", "()V"⟩
abbrev cX6_write : ByteArray := prog_8_method_2_code
def yX6_write : MethodName := ⟨RX6, "write", "(IIIII)V"⟩
abbrev cX6_step : ByteArray := prog_8_method_3_code
def yX6_step : MethodName := ⟨RX6, "step", "()I"⟩
abbrev cX6_holds : ByteArray := prog_8_method_4_code
def yX6_holds : MethodName := ⟨RX6, "holds", "(III)Z"⟩
abbrev cX6_reckon : ByteArray := prog_8_method_5_code
def yX6_reckon : MethodName := ⟨RX6, "reckon", "(IIII)V"⟩
def RX7 : String := "WayGuesses$Row"
def TX7 : u_T := fun k => match k with
  | 0 => ("WayGuesses$Row", "branches", "[I", true)
  | 1 => ("WayGuesses$Row", "counts", "[I", true)
  | 2 => ("WayGuesses$Row", "tallies", "[I", true)
  | 3 => ("WayGuesses$Row", "keys", "[I", true)
  | 4 => ("WayGuesses$Row", "histories", "[I", true)
  | 5 => ("WayGuesses$Row", "size", "I", false)
  | 6 => ("WayGuesses$Row", "leastMisses", "I", false)
  | _ => ("WayGuesses$Row", "unlike", "I", false)
def tyX7 : Nat → FieldType := fun k => match k with
  | 0 => .array .int
  | 1 => .array .int
  | 2 => .array .int
  | 3 => .array .int
  | 4 => .array .int
  | 5 => .int
  | 6 => .int
  | _ => .int
abbrev wsX70 : List Cond := u_ws RX7 TX7 8
theorem nmX7 : ∀ a, a < 8 → ∀ b, b < 8 → a ≠ b → (TX7 a).2.1 ≠ (TX7 b).2.1 := by decide +kernel
theorem tyX7_ok : ∀ k, k < 8 → parseFieldDescriptor (TX7 k).2.2.1 = some (tyX7 k) := by decide +kernel
abbrev cX7_init : ByteArray := prog_9_method_1_code
def yX7_init : MethodName := ⟨RX7, "<init>", "()V"⟩
abbrev cX7_add : ByteArray := prog_9_method_2_code
def yX7_add : MethodName := ⟨RX7, "add", "(II)V"⟩
abbrev cX7_clear : ByteArray := prog_9_method_3_code
def yX7_clear : MethodName := ⟨RX7, "clear", "()V"⟩
abbrev cX7_placeOf : ByteArray := prog_9_method_4_code
def yX7_placeOf : MethodName := ⟨RX7, "placeOf", "(I)I"⟩
abbrev cX7_wayOf : ByteArray := prog_9_method_5_code
def yX7_wayOf : MethodName := ⟨RX7, "wayOf", "(I)I"⟩
abbrev cX7_count : ByteArray := prog_9_method_6_code
def yX7_count : MethodName := ⟨RX7, "count", "(II)I"⟩
abbrev cX7_usualWay : ByteArray := prog_9_method_7_code
def yX7_usualWay : MethodName := ⟨RX7, "usualWay", "(I)I"⟩
abbrev cX7_survey : ByteArray := prog_9_method_8_code
def yX7_survey : MethodName := ⟨RX7, "survey", "(IZ)V"⟩
abbrev cX7_tally : ByteArray := prog_9_method_9_code
def yX7_tally : MethodName := ⟨RX7, "tally", "(II)V"⟩
def RX8 : String := "WayGuesses$Votes"
def TX8 : u_T := fun k => match k with
  | 0 => ("WayGuesses$Guesser", "hints", "[I", true)
  | 1 => ("WayGuesses$Guesser", "kept", "[LWayGuesses$Learnt;", true)
  | 2 => ("WayGuesses$Guesser", "first", "LWayGuesses$Learnt;", true)
  | 3 => ("WayGuesses$Guesser", "now", "LWayGuesses$Learnt;", true)
  | 4 => ("WayGuesses$Guesser", "tables", "I", true)
  | 5 => ("WayGuesses$Guesser", "width", "I", true)
  | 6 => ("WayGuesses$Guesser", "said", "I", false)
  | 7 => ("WayGuesses$Votes", "mask", "I", true)
  | _ => ("WayGuesses$Votes", "history", "I", true)
def tyX8 : Nat → FieldType := fun k => match k with
  | 0 => .array .int
  | 1 => .array (.object "WayGuesses$Learnt")
  | 2 => .object "WayGuesses$Learnt"
  | 3 => .object "WayGuesses$Learnt"
  | 4 => .int
  | 5 => .int
  | 6 => .int
  | 7 => .int
  | _ => .int
abbrev wsX80 : List Cond := u_ws RX8 TX8 9
theorem nmX8 : ∀ a, a < 9 → ∀ b, b < 9 → a ≠ b → (TX8 a).2.1 ≠ (TX8 b).2.1 := by decide +kernel
theorem tyX8_ok : ∀ k, k < 9 → parseFieldDescriptor (TX8 k).2.2.1 = some (tyX8 k) := by decide +kernel
abbrev cX8_init : ByteArray := prog_10_method_1_code
def yX8_init : MethodName := ⟨RX8, "<init>", "(II)V"⟩
abbrev cX8_cellOf : ByteArray := prog_10_method_2_code
def yX8_cellOf : MethodName := ⟨RX8, "cellOf", "(II)I"⟩
abbrev cX8_ownWay : ByteArray := prog_10_method_3_code
def yX8_ownWay : MethodName := ⟨RX8, "ownWay", "(I)I"⟩
abbrev cX8_learn : ByteArray := prog_10_method_4_code
def yX8_learn : MethodName := ⟨RX8, "learn", "(II)V"⟩
abbrev cX8_slotOf : ByteArray := prog_10_method_5_code
def yX8_slotOf : MethodName := ⟨RX8, "slotOf", "(I)I"⟩
def RX9 : String := "WayGuesses$Weights"
def TX9 : u_T := fun k => match k with
  | 0 => ("WayGuesses$Guesser", "hints", "[I", true)
  | 1 => ("WayGuesses$Guesser", "kept", "[LWayGuesses$Learnt;", true)
  | 2 => ("WayGuesses$Guesser", "first", "LWayGuesses$Learnt;", true)
  | 3 => ("WayGuesses$Guesser", "now", "LWayGuesses$Learnt;", true)
  | 4 => ("WayGuesses$Guesser", "tables", "I", true)
  | 5 => ("WayGuesses$Guesser", "width", "I", true)
  | 6 => ("WayGuesses$Guesser", "said", "I", false)
  | 7 => ("WayGuesses$Weights", "mask", "I", true)
  | _ => ("WayGuesses$Weights", "sure", "I", true)
def tyX9 : Nat → FieldType := fun k => match k with
  | 0 => .array .int
  | 1 => .array (.object "WayGuesses$Learnt")
  | 2 => .object "WayGuesses$Learnt"
  | 3 => .object "WayGuesses$Learnt"
  | 4 => .int
  | 5 => .int
  | 6 => .int
  | 7 => .int
  | _ => .int
abbrev wsX90 : List Cond := u_ws RX9 TX9 9
theorem nmX9 : ∀ a, a < 9 → ∀ b, b < 9 → a ≠ b → (TX9 a).2.1 ≠ (TX9 b).2.1 := by decide +kernel
theorem tyX9_ok : ∀ k, k < 9 → parseFieldDescriptor (TX9 k).2.2.1 = some (tyX9 k) := by decide +kernel
abbrev cX9_init : ByteArray := prog_11_method_1_code
def yX9_init : MethodName := ⟨RX9, "<init>", "(III)V"⟩
abbrev cX9_slotOf : ByteArray := prog_11_method_2_code
def yX9_slotOf : MethodName := ⟨RX9, "slotOf", "(I)I"⟩
abbrev cX9_bitOf : ByteArray := prog_11_method_3_code
def yX9_bitOf : MethodName := ⟨RX9, "bitOf", "(I)I"⟩
abbrev cX9_sumAt : ByteArray := prog_11_method_4_code
def yX9_sumAt : MethodName := ⟨RX9, "sumAt", "(I)I"⟩
abbrev cX9_ownWay : ByteArray := prog_11_method_5_code
def yX9_ownWay : MethodName := ⟨RX9, "ownWay", "(I)I"⟩
abbrev cX9_learn : ByteArray := prog_11_method_6_code
def yX9_learn : MethodName := ⟨RX9, "learn", "(II)V"⟩
def RX10 : String := "WayGuesses"
def TX10 : u_T := fun k => match k with
  | 0 => ("WayGuesses", "machine", "LWayGuesses$Machine;", true)
  | 1 => ("WayGuesses", "row", "LWayGuesses$Row;", true)
  | 2 => ("WayGuesses", "guessers", "[LWayGuesses$Guesser;", true)
  | 3 => ("WayGuesses", "guesserCount", "I", false)
  | _ => ("WayGuesses", "branchesEver", "I", false)
def tyX10 : Nat → FieldType := fun k => match k with
  | 0 => .object "WayGuesses$Machine"
  | 1 => .object "WayGuesses$Row"
  | 2 => .array (.object "WayGuesses$Guesser")
  | 3 => .int
  | _ => .int
abbrev wsX100 : List Cond := u_ws RX10 TX10 5
theorem nmX10 : ∀ a, a < 5 → ∀ b, b < 5 → a ≠ b → (TX10 a).2.1 ≠ (TX10 b).2.1 := by decide +kernel
theorem tyX10_ok : ∀ k, k < 5 → parseFieldDescriptor (TX10 k).2.2.1 = some (tyX10 k) := by decide +kernel
abbrev cX10_init : ByteArray := prog_1_method_1_code
def yX10_init : MethodName := ⟨RX10, "<init>", "()V"⟩
abbrev cX10_op : ByteArray := prog_1_method_2_code
def yX10_op : MethodName := ⟨RX10, "op", "(IIIII)I"⟩
abbrev cX10_register : ByteArray := prog_1_method_3_code
def yX10_register : MethodName := ⟨RX10, "register", "(II)I"⟩
abbrev cX10_value : ByteArray := prog_1_method_4_code
def yX10_value : MethodName := ⟨RX10, "value", "(I)I"⟩
abbrev cX10_data : ByteArray := prog_1_method_5_code
def yX10_data : MethodName := ⟨RX10, "data", "(II)I"⟩
abbrev cX10_stored : ByteArray := prog_1_method_6_code
def yX10_stored : MethodName := ⟨RX10, "stored", "(I)I"⟩
abbrev cX10_stand : ByteArray := prog_1_method_7_code
def yX10_stand : MethodName := ⟨RX10, "stand", "(I)I"⟩
abbrev cX10_run : ByteArray := prog_1_method_8_code
def yX10_run : MethodName := ⟨RX10, "run", "(I)I"⟩
abbrev cX10_branch : ByteArray := prog_1_method_9_code
def yX10_branch : MethodName := ⟨RX10, "branch", "(II)I"⟩
abbrev cX10_at : ByteArray := prog_1_method_10_code
def yX10_at : MethodName := ⟨RX10, "at", "(II)I"⟩
abbrev cX10_guesser : ByteArray := prog_1_method_11_code
def yX10_guesser : MethodName := ⟨RX10, "guesser", "(IIII)I"⟩
abbrev cX10_guess : ByteArray := prog_1_method_12_code
def yX10_guess : MethodName := ⟨RX10, "guess", "(II)I"⟩
abbrev cX10_hint : ByteArray := prog_1_method_13_code
def yX10_hint : MethodName := ⟨RX10, "hint", "(III)I"⟩
abbrev cX10_profile : ByteArray := prog_1_method_14_code
def yX10_profile : MethodName := ⟨RX10, "profile", "(I)I"⟩
abbrev cX10_misses : ByteArray := prog_1_method_15_code
def yX10_misses : MethodName := ⟨RX10, "misses", "(II)I"⟩
abbrev cX10_asked : ByteArray := prog_1_method_16_code
def yX10_asked : MethodName := ⟨RX10, "asked", "(I)I"⟩
abbrev cX10_clashes : ByteArray := prog_1_method_17_code
def yX10_clashes : MethodName := ⟨RX10, "clashes", "(I)I"⟩
abbrev cX10_pair : ByteArray := prog_1_method_18_code
def yX10_pair : MethodName := ⟨RX10, "pair", "(II)I"⟩
abbrev cX10_inside : ByteArray := prog_1_method_19_code
def yX10_inside : MethodName := ⟨RX10, "inside", "(III)I"⟩
abbrev cX10_fresh : ByteArray := prog_1_method_20_code
def yX10_fresh : MethodName := ⟨RX10, "fresh", "(I)I"⟩
abbrev cX10_again : ByteArray := prog_1_method_21_code
def yX10_again : MethodName := ⟨RX10, "again", "(I)I"⟩
abbrev cX10_keep : ByteArray := prog_1_method_22_code
def yX10_keep : MethodName := ⟨RX10, "keep", "(II)I"⟩
abbrev cX10_back : ByteArray := prog_1_method_23_code
def yX10_back : MethodName := ⟨RX10, "back", "(II)I"⟩
abbrev cX10_best : ByteArray := prog_1_method_24_code
def yX10_best : MethodName := ⟨RX10, "best", "(IZ)I"⟩
abbrev cX10_seen : ByteArray := prog_1_method_25_code
def yX10_seen : MethodName := ⟨RX10, "seen", "(IZ)I"⟩
abbrev cX10_often : ByteArray := prog_1_method_26_code
def yX10_often : MethodName := ⟨RX10, "often", "(II)I"⟩
abbrev cX10_ticks : ByteArray := prog_1_method_27_code
def yX10_ticks : MethodName := ⟨RX10, "ticks", "(II)I"⟩
abbrev cX10_told : ByteArray := prog_1_method_28_code
def yX10_told : MethodName := ⟨RX10, "told", "(I)I"⟩
abbrev cX10_empty : ByteArray := prog_1_method_29_code
def yX10_empty : MethodName := ⟨RX10, "empty", "()I"⟩
abbrev cX10_within : ByteArray := prog_1_method_30_code
def yX10_within : MethodName := ⟨RX10, "within", "(III)Z"⟩
abbrev cX10_isPlace : ByteArray := prog_1_method_31_code
def yX10_isPlace : MethodName := ⟨RX10, "isPlace", "(I)Z"⟩
abbrev cX10_isRegister : ByteArray := prog_1_method_32_code
def yX10_isRegister : MethodName := ⟨RX10, "isRegister", "(I)Z"⟩
abbrev cX10_isData : ByteArray := prog_1_method_33_code
def yX10_isData : MethodName := ⟨RX10, "isData", "(I)Z"⟩
abbrev cX10_isWay : ByteArray := prog_1_method_34_code
def yX10_isWay : MethodName := ⟨RX10, "isWay", "(I)Z"⟩
abbrev cX10_isIn : ByteArray := prog_1_method_35_code
def yX10_isIn : MethodName := ⟨RX10, "isIn", "(II)Z"⟩
abbrev cX10_lowBits : ByteArray := prog_1_method_36_code
def yX10_lowBits : MethodName := ⟨RX10, "lowBits", "(I)I"⟩
abbrev cX10_isGuesser : ByteArray := prog_1_method_37_code
def yX10_isGuesser : MethodName := ⟨RX10, "isGuesser", "(I)Z"⟩
abbrev cX10_meet : ByteArray := prog_1_method_38_code
def yX10_meet : MethodName := ⟨RX10, "meet", "(II)V"⟩
abbrev cX10_fits : ByteArray := prog_1_method_39_code
def yX10_fits : MethodName := ⟨RX10, "fits", "(IIII)Z"⟩
abbrev cX10_made : ByteArray := prog_1_method_40_code
def yX10_made : MethodName := ⟨RX10, "made", "(IIII)LWayGuesses$Guesser;"⟩
abbrev cX10_groupOf : ByteArray := prog_1_method_41_code
def yX10_groupOf : MethodName := ⟨RX10, "groupOf", "(I)I"⟩
def RX11 : String := "WayGuessesModel"
def TX11 : u_T := fun k => match k with
  | 0 => ("WayGuessesModel", "kind", "[I", true)
  | 1 => ("WayGuessesModel", "opR", "[I", true)
  | 2 => ("WayGuessesModel", "opS", "[I", true)
  | 3 => ("WayGuessesModel", "opV", "[I", true)
  | 4 => ("WayGuessesModel", "register", "[I", true)
  | 5 => ("WayGuessesModel", "data", "[I", true)
  | 6 => ("WayGuessesModel", "stands", "I", false)
  | 7 => ("WayGuessesModel", "steps", "I", false)
  | 8 => ("WayGuessesModel", "branches", "I", false)
  | 9 => ("WayGuessesModel", "rows", "I", false)
  | 10 => ("WayGuessesModel", "rowPlace", "[I", true)
  | 11 => ("WayGuessesModel", "rowWay", "[I", true)
  | 12 => ("WayGuessesModel", "guessers", "I", false)
  | 13 => ("WayGuessesModel", "kindOf", "[I", true)
  | 14 => ("WayGuessesModel", "a", "[I", true)
  | 15 => ("WayGuessesModel", "b", "[I", true)
  | 16 => ("WayGuessesModel", "c", "[I", true)
  | 17 => ("WayGuessesModel", "hint", "[I", true)
  | 18 => ("WayGuessesModel", "now", "[I", true)
  | 19 => ("WayGuessesModel", "kept", "[I", true)
  | 20 => ("WayGuessesModel", "isKept", "[Z", true)
  | 21 => ("WayGuessesModel", "guessed", "[I", true)
  | 22 => ("WayGuessesModel", "would", "[I", true)
  | 23 => ("WayGuessesModel", "count", "[I", true)
  | _ => ("WayGuessesModel", "ownHistory", "[I", true)
def tyX11 : Nat → FieldType := fun k => match k with
  | 0 => .array .int
  | 1 => .array .int
  | 2 => .array .int
  | 3 => .array .int
  | 4 => .array .int
  | 5 => .array .int
  | 6 => .int
  | 7 => .int
  | 8 => .int
  | 9 => .int
  | 10 => .array .int
  | 11 => .array .int
  | 12 => .int
  | 13 => .array .int
  | 14 => .array .int
  | 15 => .array .int
  | 16 => .array .int
  | 17 => .array .int
  | 18 => .array .int
  | 19 => .array .int
  | 20 => .array .boolean
  | 21 => .array .int
  | 22 => .array .int
  | 23 => .array .int
  | _ => .array .int
abbrev wsX110 : List Cond := u_ws RX11 TX11 25
theorem nmX11 : ∀ a, a < 25 → ∀ b, b < 25 → a ≠ b → (TX11 a).2.1 ≠ (TX11 b).2.1 := by decide +kernel
theorem tyX11_ok : ∀ k, k < 25 → parseFieldDescriptor (TX11 k).2.2.1 = some (tyX11 k) := by decide +kernel
abbrev cX11_init : ByteArray := prog_13_method_1_code
def yX11_init : MethodName := ⟨RX11, "<init>", "()V"⟩
abbrev cX11_in : ByteArray := prog_13_method_2_code
def yX11_in : MethodName := ⟨RX11, "in", "(III)Z"⟩
abbrev cX11_isPlace : ByteArray := prog_13_method_3_code
def yX11_isPlace : MethodName := ⟨RX11, "isPlace", "(I)Z"⟩
abbrev cX11_op : ByteArray := prog_13_method_4_code
def yX11_op : MethodName := ⟨RX11, "op", "(IIIII)I"⟩
abbrev cX11_register : ByteArray := prog_13_method_5_code
def yX11_register : MethodName := ⟨RX11, "register", "(II)I"⟩
abbrev cX11_value : ByteArray := prog_13_method_6_code
def yX11_value : MethodName := ⟨RX11, "value", "(I)I"⟩
abbrev cX11_data : ByteArray := prog_13_method_7_code
def yX11_data : MethodName := ⟨RX11, "data", "(II)I"⟩
abbrev cX11_stored : ByteArray := prog_13_method_8_code
def yX11_stored : MethodName := ⟨RX11, "stored", "(I)I"⟩
abbrev cX11_stand : ByteArray := prog_13_method_9_code
def yX11_stand : MethodName := ⟨RX11, "stand", "(I)I"⟩
abbrev cX11_step : ByteArray := prog_13_method_10_code
def yX11_step : MethodName := ⟨RX11, "step", "()V"⟩
abbrev cX11_run : ByteArray := prog_13_method_11_code
def yX11_run : MethodName := ⟨RX11, "run", "(I)I"⟩
abbrev cX11_comes : ByteArray := prog_13_method_12_code
def yX11_comes : MethodName := ⟨RX11, "comes", "(II)V"⟩
abbrev cX11_branch : ByteArray := prog_13_method_13_code
def yX11_branch : MethodName := ⟨RX11, "branch", "(II)I"⟩
abbrev cX11_at : ByteArray := prog_13_method_14_code
def yX11_at : MethodName := ⟨RX11, "at", "(II)I"⟩
abbrev cX11_isGuesser : ByteArray := prog_13_method_15_code
def yX11_isGuesser : MethodName := ⟨RX11, "isGuesser", "(I)Z"⟩
abbrev cX11_fits : ByteArray := prog_13_method_16_code
def yX11_fits : MethodName := ⟨RX11, "fits", "(IIII)Z"⟩
abbrev cX11_begin : ByteArray := prog_13_method_17_code
def yX11_begin : MethodName := ⟨RX11, "begin", "(I)V"⟩
abbrev cX11_guesser : ByteArray := prog_13_method_18_code
def yX11_guesser : MethodName := ⟨RX11, "guesser", "(IIII)I"⟩
abbrev cX11_low : ByteArray := prog_13_method_19_code
def yX11_low : MethodName := ⟨RX11, "low", "(II)I"⟩
abbrev cX11_counter : ByteArray := prog_13_method_20_code
def yX11_counter : MethodName := ⟨RX11, "counter", "(III)I"⟩
abbrev cX11_sum : ByteArray := prog_13_method_21_code
def yX11_sum : MethodName := ⟨RX11, "sum", "(II)I"⟩
abbrev cX11_own : ByteArray := prog_13_method_22_code
def yX11_own : MethodName := ⟨RX11, "own", "(IIII)I"⟩
abbrev cX11_clashes1 : ByteArray := prog_13_method_23_code
def yX11_clashes1 : MethodName := ⟨RX11, "clashes1", "(I)Z"⟩
abbrev cX11_clash : ByteArray := prog_13_method_24_code
def yX11_clash : MethodName := ⟨RX11, "clash", "(II)V"⟩
abbrev cX11_asks : ByteArray := prog_13_method_25_code
def yX11_asks : MethodName := ⟨RX11, "asks", "(III)V"⟩
abbrev cX11_turn : ByteArray := prog_13_method_26_code
def yX11_turn : MethodName := ⟨RX11, "turn", "(II)V"⟩
abbrev cX11_weigh : ByteArray := prog_13_method_27_code
def yX11_weigh : MethodName := ⟨RX11, "weigh", "(III)V"⟩
abbrev cX11_loop : ByteArray := prog_13_method_28_code
def yX11_loop : MethodName := ⟨RX11, "loop", "(II)V"⟩
abbrev cX11_guess : ByteArray := prog_13_method_29_code
def yX11_guess : MethodName := ⟨RX11, "guess", "(II)I"⟩
abbrev cX11_hint : ByteArray := prog_13_method_30_code
def yX11_hint : MethodName := ⟨RX11, "hint", "(III)I"⟩
abbrev cX11_times : ByteArray := prog_13_method_31_code
def yX11_times : MethodName := ⟨RX11, "times", "(II)I"⟩
abbrev cX11_profile : ByteArray := prog_13_method_32_code
def yX11_profile : MethodName := ⟨RX11, "profile", "(I)I"⟩
abbrev cX11_missesOf : ByteArray := prog_13_method_33_code
def yX11_missesOf : MethodName := ⟨RX11, "missesOf", "(I)I"⟩
abbrev cX11_misses : ByteArray := prog_13_method_34_code
def yX11_misses : MethodName := ⟨RX11, "misses", "(II)I"⟩
abbrev cX11_asked : ByteArray := prog_13_method_35_code
def yX11_asked : MethodName := ⟨RX11, "asked", "(I)I"⟩
abbrev cX11_clashes : ByteArray := prog_13_method_36_code
def yX11_clashes : MethodName := ⟨RX11, "clashes", "(I)I"⟩
abbrev cX11_pair : ByteArray := prog_13_method_37_code
def yX11_pair : MethodName := ⟨RX11, "pair", "(II)I"⟩
abbrev cX11_inside : ByteArray := prog_13_method_38_code
def yX11_inside : MethodName := ⟨RX11, "inside", "(III)I"⟩
abbrev cX11_fresh : ByteArray := prog_13_method_39_code
def yX11_fresh : MethodName := ⟨RX11, "fresh", "(I)I"⟩
abbrev cX11_again : ByteArray := prog_13_method_40_code
def yX11_again : MethodName := ⟨RX11, "again", "(I)I"⟩
abbrev cX11_keep : ByteArray := prog_13_method_41_code
def yX11_keep : MethodName := ⟨RX11, "keep", "(II)I"⟩
abbrev cX11_back : ByteArray := prog_13_method_42_code
def yX11_back : MethodName := ⟨RX11, "back", "(II)I"⟩
abbrev cX11_countAll : ByteArray := prog_13_method_43_code
def yX11_countAll : MethodName := ⟨RX11, "countAll", "(IZ)V"⟩
abbrev cX11_best : ByteArray := prog_13_method_44_code
def yX11_best : MethodName := ⟨RX11, "best", "(IZ)I"⟩
abbrev cX11_seen : ByteArray := prog_13_method_45_code
def yX11_seen : MethodName := ⟨RX11, "seen", "(IZ)I"⟩
abbrev cX11_often : ByteArray := prog_13_method_46_code
def yX11_often : MethodName := ⟨RX11, "often", "(II)I"⟩
abbrev cX11_ticks : ByteArray := prog_13_method_47_code
def yX11_ticks : MethodName := ⟨RX11, "ticks", "(II)I"⟩
abbrev cX11_told : ByteArray := prog_13_method_48_code
def yX11_told : MethodName := ⟨RX11, "told", "(I)I"⟩
abbrev cX11_empty : ByteArray := prog_13_method_49_code
def yX11_empty : MethodName := ⟨RX11, "empty", "()I"⟩
def RJ9 : String := "java/lang/Math"
abbrev cJ9_abs_0f7a4 : ByteArray := prog_14_method_59_code
def yJ9_abs_0f7a4 : MethodName := ⟨RJ9, "abs", "(I)I"⟩
abbrev cJ9_max_7cf53 : ByteArray := prog_14_method_65_code
def yJ9_max_7cf53 : MethodName := ⟨RJ9, "max", "(II)I"⟩
abbrev cJ9_min_7cf53 : ByteArray := prog_14_method_69_code
def yJ9_min_7cf53 : MethodName := ⟨RJ9, "min", "(II)I"⟩
def RJ10 : String := "java/lang/System"
def RJ7 : String := "java/util/Arrays"
abbrev cJ7_fill_53178 : ByteArray := prog_16_method_103_code
def yJ7_fill_53178 : MethodName := ⟨RJ7, "fill", "([II)V"⟩
def RL : String := "WayGuessesLaw"
abbrev cL_law : ByteArray := code
def yL_law : MethodName := ⟨RL, "law", "([I)Z"⟩
abbrev vwCl : List vw_C := [(RX0, TX0, 11), (RX1, TX1, 11), (RX2, TX2, 9), (RX4, TX4, 10), (RX5, TX5, 8), (RX6, TX6, 8), (RX7, TX7, 8), (RX8, TX8, 9), (RX9, TX9, 9), (RX10, TX10, 5), (RX11, TX11, 25)]
end
section
theorem dX11_init_0 : decode cX11_init 0 = .ok (.aload_n 0, 1) := by decide +kernel
theorem dX11_init_1 : decode cX11_init 1 = .ok (.invokespecial 1, 3) := by decide +kernel
theorem dX11_init_4 : decode cX11_init 4 = .ok (.aload_n 0, 1) := by decide +kernel
theorem dX11_init_5 : decode cX11_init 5 = .ok (.bipush 64, 2) := by decide +kernel
theorem dX11_init_7 : decode cX11_init 7 = .ok (.newarray .int, 2) := by decide +kernel
theorem dX11_init_9 : decode cX11_init 9 = .ok (.putfield 7, 3) := by decide +kernel
theorem dX11_init_12 : decode cX11_init 12 = .ok (.aload_n 0, 1) := by decide +kernel
theorem dX11_init_13 : decode cX11_init 13 = .ok (.bipush 64, 2) := by decide +kernel
theorem dX11_init_15 : decode cX11_init 15 = .ok (.newarray .int, 2) := by decide +kernel
theorem dX11_init_17 : decode cX11_init 17 = .ok (.putfield 13, 3) := by decide +kernel
theorem dX11_init_20 : decode cX11_init 20 = .ok (.aload_n 0, 1) := by decide +kernel
theorem dX11_init_21 : decode cX11_init 21 = .ok (.bipush 64, 2) := by decide +kernel
theorem dX11_init_23 : decode cX11_init 23 = .ok (.newarray .int, 2) := by decide +kernel
theorem dX11_init_25 : decode cX11_init 25 = .ok (.putfield 16, 3) := by decide +kernel
theorem dX11_init_28 : decode cX11_init 28 = .ok (.aload_n 0, 1) := by decide +kernel
theorem dX11_init_29 : decode cX11_init 29 = .ok (.bipush 64, 2) := by decide +kernel
theorem dX11_init_31 : decode cX11_init 31 = .ok (.newarray .int, 2) := by decide +kernel
theorem dX11_init_33 : decode cX11_init 33 = .ok (.putfield 19, 3) := by decide +kernel
theorem dX11_init_36 : decode cX11_init 36 = .ok (.aload_n 0, 1) := by decide +kernel
theorem dX11_init_37 : decode cX11_init 37 = .ok (.bipush 8, 2) := by decide +kernel
theorem dX11_init_39 : decode cX11_init 39 = .ok (.newarray .int, 2) := by decide +kernel
theorem dX11_init_41 : decode cX11_init 41 = .ok (.putfield 22, 3) := by decide +kernel
theorem dX11_init_44 : decode cX11_init 44 = .ok (.aload_n 0, 1) := by decide +kernel
theorem dX11_init_45 : decode cX11_init 45 = .ok (.bipush 32, 2) := by decide +kernel
theorem dX11_init_47 : decode cX11_init 47 = .ok (.newarray .int, 2) := by decide +kernel
theorem dX11_init_49 : decode cX11_init 49 = .ok (.putfield 25, 3) := by decide +kernel
theorem dX11_init_52 : decode cX11_init 52 = .ok (.aload_n 0, 1) := by decide +kernel
theorem dX11_init_53 : decode cX11_init 53 = .ok (.sipush 3000, 3) := by decide +kernel
theorem dX11_init_56 : decode cX11_init 56 = .ok (.newarray .int, 2) := by decide +kernel
theorem dX11_init_58 : decode cX11_init 58 = .ok (.putfield 28, 3) := by decide +kernel
theorem dX11_init_61 : decode cX11_init 61 = .ok (.aload_n 0, 1) := by decide +kernel
theorem dX11_init_62 : decode cX11_init 62 = .ok (.sipush 3000, 3) := by decide +kernel
theorem dX11_init_65 : decode cX11_init 65 = .ok (.newarray .int, 2) := by decide +kernel
theorem dX11_init_67 : decode cX11_init 67 = .ok (.putfield 31, 3) := by decide +kernel
theorem dX11_init_70 : decode cX11_init 70 = .ok (.aload_n 0, 1) := by decide +kernel
theorem dX11_init_71 : decode cX11_init 71 = .ok (.bipush 8, 2) := by decide +kernel
theorem dX11_init_73 : decode cX11_init 73 = .ok (.newarray .int, 2) := by decide +kernel
theorem dX11_init_75 : decode cX11_init 75 = .ok (.putfield 34, 3) := by decide +kernel
theorem dX11_init_78 : decode cX11_init 78 = .ok (.aload_n 0, 1) := by decide +kernel
theorem dX11_init_79 : decode cX11_init 79 = .ok (.bipush 8, 2) := by decide +kernel
theorem dX11_init_81 : decode cX11_init 81 = .ok (.newarray .int, 2) := by decide +kernel
theorem dX11_init_83 : decode cX11_init 83 = .ok (.putfield 37, 3) := by decide +kernel
theorem dX11_init_86 : decode cX11_init 86 = .ok (.aload_n 0, 1) := by decide +kernel
theorem dX11_init_87 : decode cX11_init 87 = .ok (.bipush 8, 2) := by decide +kernel
theorem dX11_init_89 : decode cX11_init 89 = .ok (.newarray .int, 2) := by decide +kernel
theorem dX11_init_91 : decode cX11_init 91 = .ok (.putfield 40, 3) := by decide +kernel
theorem dX11_init_94 : decode cX11_init 94 = .ok (.aload_n 0, 1) := by decide +kernel
theorem dX11_init_95 : decode cX11_init 95 = .ok (.bipush 8, 2) := by decide +kernel
theorem dX11_init_97 : decode cX11_init 97 = .ok (.newarray .int, 2) := by decide +kernel
theorem dX11_init_99 : decode cX11_init 99 = .ok (.putfield 43, 3) := by decide +kernel
theorem dX11_init_102 : decode cX11_init 102 = .ok (.aload_n 0, 1) := by decide +kernel
theorem dX11_init_103 : decode cX11_init 103 = .ok (.sipush 512, 3) := by decide +kernel
theorem dX11_init_106 : decode cX11_init 106 = .ok (.newarray .int, 2) := by decide +kernel
theorem dX11_init_108 : decode cX11_init 108 = .ok (.putfield 46, 3) := by decide +kernel
theorem dX11_init_111 : decode cX11_init 111 = .ok (.aload_n 0, 1) := by decide +kernel
theorem dX11_init_112 : decode cX11_init 112 = .ok (.sipush 6496, 3) := by decide +kernel
theorem dX11_init_115 : decode cX11_init 115 = .ok (.newarray .int, 2) := by decide +kernel
theorem dX11_init_117 : decode cX11_init 117 = .ok (.putfield 49, 3) := by decide +kernel
theorem dX11_init_120 : decode cX11_init 120 = .ok (.aload_n 0, 1) := by decide +kernel
theorem dX11_init_121 : decode cX11_init 121 = .ok (.sipush 12992, 3) := by decide +kernel
theorem dX11_init_124 : decode cX11_init 124 = .ok (.newarray .int, 2) := by decide +kernel
theorem dX11_init_126 : decode cX11_init 126 = .ok (.putfield 52, 3) := by decide +kernel
theorem dX11_init_129 : decode cX11_init 129 = .ok (.aload_n 0, 1) := by decide +kernel
theorem dX11_init_130 : decode cX11_init 130 = .ok (.bipush 16, 2) := by decide +kernel
theorem dX11_init_132 : decode cX11_init 132 = .ok (.newarray .boolean, 2) := by decide +kernel
theorem dX11_init_134 : decode cX11_init 134 = .ok (.putfield 55, 3) := by decide +kernel
theorem dX11_init_137 : decode cX11_init 137 = .ok (.aload_n 0, 1) := by decide +kernel
theorem dX11_init_138 : decode cX11_init 138 = .ok (.bipush 8, 2) := by decide +kernel
theorem dX11_init_140 : decode cX11_init 140 = .ok (.newarray .int, 2) := by decide +kernel
theorem dX11_init_142 : decode cX11_init 142 = .ok (.putfield 59, 3) := by decide +kernel
theorem dX11_init_145 : decode cX11_init 145 = .ok (.aload_n 0, 1) := by decide +kernel
theorem dX11_init_146 : decode cX11_init 146 = .ok (.bipush 8, 2) := by decide +kernel
theorem dX11_init_148 : decode cX11_init 148 = .ok (.newarray .int, 2) := by decide +kernel
theorem dX11_init_150 : decode cX11_init 150 = .ok (.putfield 62, 3) := by decide +kernel
theorem dX11_init_153 : decode cX11_init 153 = .ok (.aload_n 0, 1) := by decide +kernel
theorem dX11_init_154 : decode cX11_init 154 = .ok (.ldc 65, 2) := by decide +kernel
theorem dX11_init_156 : decode cX11_init 156 = .ok (.newarray .int, 2) := by decide +kernel
theorem dX11_init_158 : decode cX11_init 158 = .ok (.putfield 66, 3) := by decide +kernel
theorem dX11_init_161 : decode cX11_init 161 = .ok (.aload_n 0, 1) := by decide +kernel
theorem dX11_init_162 : decode cX11_init 162 = .ok (.bipush 64, 2) := by decide +kernel
theorem dX11_init_164 : decode cX11_init 164 = .ok (.newarray .int, 2) := by decide +kernel
theorem dX11_init_166 : decode cX11_init 166 = .ok (.putfield 69, 3) := by decide +kernel
theorem dX11_init_169 : decode cX11_init 169 = .ok (.return_, 1) := by decide +kernel
theorem dX11_in_0 : decode cX11_in 0 = .ok (.iload_n 0, 1) := by decide +kernel
theorem dX11_in_1 : decode cX11_in 1 = .ok (.iload_n 1, 1) := by decide +kernel
theorem dX11_in_2 : decode cX11_in 2 = .ok (.if_icmp .lt 12, 3) := by decide +kernel
theorem dX11_in_5 : decode cX11_in 5 = .ok (.iload_n 0, 1) := by decide +kernel
theorem dX11_in_6 : decode cX11_in 6 = .ok (.iload_n 2, 1) := by decide +kernel
theorem dX11_in_7 : decode cX11_in 7 = .ok (.if_icmp .gt 7, 3) := by decide +kernel
theorem dX11_in_10 : decode cX11_in 10 = .ok (.iconst 1, 1) := by decide +kernel
theorem dX11_in_11 : decode cX11_in 11 = .ok (.goto 4, 3) := by decide +kernel
theorem dX11_in_14 : decode cX11_in 14 = .ok (.iconst 0, 1) := by decide +kernel
theorem dX11_in_15 : decode cX11_in 15 = .ok (.ireturn, 1) := by decide +kernel
theorem dX11_isPlace_0 : decode cX11_isPlace 0 = .ok (.iload_n 0, 1) := by decide +kernel
theorem dX11_isPlace_1 : decode cX11_isPlace 1 = .ok (.iconst 0, 1) := by decide +kernel
theorem dX11_isPlace_2 : decode cX11_isPlace 2 = .ok (.bipush 63, 2) := by decide +kernel
theorem dX11_isPlace_4 : decode cX11_isPlace 4 = .ok (.invokestatic 72, 3) := by decide +kernel
theorem dX11_isPlace_7 : decode cX11_isPlace 7 = .ok (.ireturn, 1) := by decide +kernel
theorem dX11_op_0 : decode cX11_op 0 = .ok (.iload_n 1, 1) := by decide +kernel
theorem dX11_op_1 : decode cX11_op 1 = .ok (.invokestatic 76, 3) := by decide +kernel
theorem dX11_op_4 : decode cX11_op 4 = .ok (.ifCond .ne 5, 3) := by decide +kernel
theorem dX11_op_7 : decode cX11_op 7 = .ok (.iconst (-1), 1) := by decide +kernel
theorem dX11_op_8 : decode cX11_op 8 = .ok (.ireturn, 1) := by decide +kernel
theorem dX11_op_9 : decode cX11_op 9 = .ok (.iload_n 2, 1) := by decide +kernel
theorem dX11_op_10 : decode cX11_op 10 = .ok (.iconst 0, 1) := by decide +kernel
theorem dX11_op_11 : decode cX11_op 11 = .ok (.bipush 12, 2) := by decide +kernel
theorem dX11_op_13 : decode cX11_op 13 = .ok (.invokestatic 72, 3) := by decide +kernel
theorem dX11_op_16 : decode cX11_op 16 = .ok (.ifCond .eq 38, 3) := by decide +kernel
theorem dX11_op_19 : decode cX11_op 19 = .ok (.iload_n 3, 1) := by decide +kernel
theorem dX11_op_20 : decode cX11_op 20 = .ok (.iconst 0, 1) := by decide +kernel
theorem dX11_op_21 : decode cX11_op 21 = .ok (.bipush 7, 2) := by decide +kernel
theorem dX11_op_23 : decode cX11_op 23 = .ok (.invokestatic 72, 3) := by decide +kernel
theorem dX11_op_26 : decode cX11_op 26 = .ok (.ifCond .eq 28, 3) := by decide +kernel
theorem dX11_op_29 : decode cX11_op 29 = .ok (.iload 4, 2) := by decide +kernel
theorem dX11_op_31 : decode cX11_op 31 = .ok (.iconst 0, 1) := by decide +kernel
theorem dX11_op_32 : decode cX11_op 32 = .ok (.bipush 7, 2) := by decide +kernel
theorem dX11_op_34 : decode cX11_op 34 = .ok (.invokestatic 72, 3) := by decide +kernel
theorem dX11_op_37 : decode cX11_op 37 = .ok (.ifCond .eq 17, 3) := by decide +kernel
theorem dX11_op_40 : decode cX11_op 40 = .ok (.iload_n 2, 1) := by decide +kernel
theorem dX11_op_41 : decode cX11_op 41 = .ok (.bipush 8, 2) := by decide +kernel
theorem dX11_op_43 : decode cX11_op 43 = .ok (.if_icmp .le 14, 3) := by decide +kernel
theorem dX11_op_46 : decode cX11_op 46 = .ok (.iload 5, 2) := by decide +kernel
theorem dX11_op_48 : decode cX11_op 48 = .ok (.invokestatic 76, 3) := by decide +kernel
theorem dX11_op_51 : decode cX11_op 51 = .ok (.ifCond .ne 6, 3) := by decide +kernel
theorem dX11_op_54 : decode cX11_op 54 = .ok (.bipush (-2), 2) := by decide +kernel
theorem dX11_op_56 : decode cX11_op 56 = .ok (.ireturn, 1) := by decide +kernel
theorem dX11_op_57 : decode cX11_op 57 = .ok (.aload_n 0, 1) := by decide +kernel
theorem dX11_op_58 : decode cX11_op 58 = .ok (.getfield 7, 3) := by decide +kernel
theorem dX11_op_61 : decode cX11_op 61 = .ok (.iload_n 1, 1) := by decide +kernel
theorem dX11_op_62 : decode cX11_op 62 = .ok (.iaload, 1) := by decide +kernel
theorem dX11_op_63 : decode cX11_op 63 = .ok (.istore 6, 2) := by decide +kernel
theorem dX11_op_65 : decode cX11_op 65 = .ok (.aload_n 0, 1) := by decide +kernel
theorem dX11_op_66 : decode cX11_op 66 = .ok (.getfield 7, 3) := by decide +kernel
theorem dX11_op_69 : decode cX11_op 69 = .ok (.iload_n 1, 1) := by decide +kernel
theorem dX11_op_70 : decode cX11_op 70 = .ok (.iload_n 2, 1) := by decide +kernel
theorem dX11_op_71 : decode cX11_op 71 = .ok (.iastore, 1) := by decide +kernel
theorem dX11_op_72 : decode cX11_op 72 = .ok (.aload_n 0, 1) := by decide +kernel
theorem dX11_op_73 : decode cX11_op 73 = .ok (.getfield 13, 3) := by decide +kernel
theorem dX11_op_76 : decode cX11_op 76 = .ok (.iload_n 1, 1) := by decide +kernel
theorem dX11_op_77 : decode cX11_op 77 = .ok (.iload_n 3, 1) := by decide +kernel
theorem dX11_op_78 : decode cX11_op 78 = .ok (.iastore, 1) := by decide +kernel
theorem dX11_op_79 : decode cX11_op 79 = .ok (.aload_n 0, 1) := by decide +kernel
theorem dX11_op_80 : decode cX11_op 80 = .ok (.getfield 16, 3) := by decide +kernel
theorem dX11_op_83 : decode cX11_op 83 = .ok (.iload_n 1, 1) := by decide +kernel
theorem dX11_op_84 : decode cX11_op 84 = .ok (.iload 4, 2) := by decide +kernel
theorem dX11_op_86 : decode cX11_op 86 = .ok (.iastore, 1) := by decide +kernel
theorem dX11_op_87 : decode cX11_op 87 = .ok (.aload_n 0, 1) := by decide +kernel
theorem dX11_op_88 : decode cX11_op 88 = .ok (.getfield 19, 3) := by decide +kernel
theorem dX11_op_91 : decode cX11_op 91 = .ok (.iload_n 1, 1) := by decide +kernel
theorem dX11_op_92 : decode cX11_op 92 = .ok (.iload 5, 2) := by decide +kernel
theorem dX11_op_94 : decode cX11_op 94 = .ok (.iastore, 1) := by decide +kernel
theorem dX11_op_95 : decode cX11_op 95 = .ok (.iload 6, 2) := by decide +kernel
theorem dX11_op_97 : decode cX11_op 97 = .ok (.ireturn, 1) := by decide +kernel
theorem dX11_register_0 : decode cX11_register 0 = .ok (.iload_n 1, 1) := by decide +kernel
theorem dX11_register_1 : decode cX11_register 1 = .ok (.iconst 0, 1) := by decide +kernel
theorem dX11_register_2 : decode cX11_register 2 = .ok (.bipush 7, 2) := by decide +kernel
theorem dX11_register_4 : decode cX11_register 4 = .ok (.invokestatic 72, 3) := by decide +kernel
theorem dX11_register_7 : decode cX11_register 7 = .ok (.ifCond .ne 6, 3) := by decide +kernel
theorem dX11_register_10 : decode cX11_register 10 = .ok (.bipush (-2), 2) := by decide +kernel
theorem dX11_register_12 : decode cX11_register 12 = .ok (.ireturn, 1) := by decide +kernel
theorem dX11_register_13 : decode cX11_register 13 = .ok (.aload_n 0, 1) := by decide +kernel
theorem dX11_register_14 : decode cX11_register 14 = .ok (.getfield 22, 3) := by decide +kernel
theorem dX11_register_17 : decode cX11_register 17 = .ok (.iload_n 1, 1) := by decide +kernel
theorem dX11_register_18 : decode cX11_register 18 = .ok (.iload_n 2, 1) := by decide +kernel
theorem dX11_register_19 : decode cX11_register 19 = .ok (.iastore, 1) := by decide +kernel
theorem dX11_register_20 : decode cX11_register 20 = .ok (.iconst 1, 1) := by decide +kernel
theorem dX11_register_21 : decode cX11_register 21 = .ok (.ireturn, 1) := by decide +kernel
theorem dX11_value_0 : decode cX11_value 0 = .ok (.iload_n 1, 1) := by decide +kernel
theorem dX11_value_1 : decode cX11_value 1 = .ok (.iconst 0, 1) := by decide +kernel
theorem dX11_value_2 : decode cX11_value 2 = .ok (.bipush 7, 2) := by decide +kernel
theorem dX11_value_4 : decode cX11_value 4 = .ok (.invokestatic 72, 3) := by decide +kernel
theorem dX11_value_7 : decode cX11_value 7 = .ok (.ifCond .eq 12, 3) := by decide +kernel
theorem dX11_value_10 : decode cX11_value 10 = .ok (.aload_n 0, 1) := by decide +kernel
theorem dX11_value_11 : decode cX11_value 11 = .ok (.getfield 22, 3) := by decide +kernel
theorem dX11_value_14 : decode cX11_value 14 = .ok (.iload_n 1, 1) := by decide +kernel
theorem dX11_value_15 : decode cX11_value 15 = .ok (.iaload, 1) := by decide +kernel
theorem dX11_value_16 : decode cX11_value 16 = .ok (.goto 4, 3) := by decide +kernel
theorem dX11_value_19 : decode cX11_value 19 = .ok (.iconst 0, 1) := by decide +kernel
theorem dX11_value_20 : decode cX11_value 20 = .ok (.ireturn, 1) := by decide +kernel
theorem dX11_data_0 : decode cX11_data 0 = .ok (.iload_n 1, 1) := by decide +kernel
theorem dX11_data_1 : decode cX11_data 1 = .ok (.iconst 0, 1) := by decide +kernel
theorem dX11_data_2 : decode cX11_data 2 = .ok (.bipush 31, 2) := by decide +kernel
theorem dX11_data_4 : decode cX11_data 4 = .ok (.invokestatic 72, 3) := by decide +kernel
theorem dX11_data_7 : decode cX11_data 7 = .ok (.ifCond .ne 6, 3) := by decide +kernel
theorem dX11_data_10 : decode cX11_data 10 = .ok (.bipush (-2), 2) := by decide +kernel
theorem dX11_data_12 : decode cX11_data 12 = .ok (.ireturn, 1) := by decide +kernel
theorem dX11_data_13 : decode cX11_data 13 = .ok (.aload_n 0, 1) := by decide +kernel
theorem dX11_data_14 : decode cX11_data 14 = .ok (.getfield 25, 3) := by decide +kernel
theorem dX11_data_17 : decode cX11_data 17 = .ok (.iload_n 1, 1) := by decide +kernel
theorem dX11_data_18 : decode cX11_data 18 = .ok (.iload_n 2, 1) := by decide +kernel
theorem dX11_data_19 : decode cX11_data 19 = .ok (.iastore, 1) := by decide +kernel
theorem dX11_data_20 : decode cX11_data 20 = .ok (.iconst 1, 1) := by decide +kernel
theorem dX11_data_21 : decode cX11_data 21 = .ok (.ireturn, 1) := by decide +kernel
theorem dX11_stored_0 : decode cX11_stored 0 = .ok (.iload_n 1, 1) := by decide +kernel
theorem dX11_stored_1 : decode cX11_stored 1 = .ok (.iconst 0, 1) := by decide +kernel
theorem dX11_stored_2 : decode cX11_stored 2 = .ok (.bipush 31, 2) := by decide +kernel
theorem dX11_stored_4 : decode cX11_stored 4 = .ok (.invokestatic 72, 3) := by decide +kernel
theorem dX11_stored_7 : decode cX11_stored 7 = .ok (.ifCond .eq 12, 3) := by decide +kernel
theorem dX11_stored_10 : decode cX11_stored 10 = .ok (.aload_n 0, 1) := by decide +kernel
theorem dX11_stored_11 : decode cX11_stored 11 = .ok (.getfield 25, 3) := by decide +kernel
theorem dX11_stored_14 : decode cX11_stored 14 = .ok (.iload_n 1, 1) := by decide +kernel
theorem dX11_stored_15 : decode cX11_stored 15 = .ok (.iaload, 1) := by decide +kernel
theorem dX11_stored_16 : decode cX11_stored 16 = .ok (.goto 4, 3) := by decide +kernel
theorem dX11_stored_19 : decode cX11_stored 19 = .ok (.iconst 0, 1) := by decide +kernel
theorem dX11_stored_20 : decode cX11_stored 20 = .ok (.ireturn, 1) := by decide +kernel
theorem dX11_stand_0 : decode cX11_stand 0 = .ok (.iload_n 1, 1) := by decide +kernel
theorem dX11_stand_1 : decode cX11_stand 1 = .ok (.invokestatic 76, 3) := by decide +kernel
theorem dX11_stand_4 : decode cX11_stand 4 = .ok (.ifCond .ne 5, 3) := by decide +kernel
theorem dX11_stand_7 : decode cX11_stand 7 = .ok (.iconst (-1), 1) := by decide +kernel
theorem dX11_stand_8 : decode cX11_stand 8 = .ok (.ireturn, 1) := by decide +kernel
theorem dX11_stand_9 : decode cX11_stand 9 = .ok (.aload_n 0, 1) := by decide +kernel
theorem dX11_stand_10 : decode cX11_stand 10 = .ok (.getfield 80, 3) := by decide +kernel
theorem dX11_stand_13 : decode cX11_stand 13 = .ok (.istore_n 2, 1) := by decide +kernel
theorem dX11_stand_14 : decode cX11_stand 14 = .ok (.aload_n 0, 1) := by decide +kernel
theorem dX11_stand_15 : decode cX11_stand 15 = .ok (.iload_n 1, 1) := by decide +kernel
theorem dX11_stand_16 : decode cX11_stand 16 = .ok (.putfield 80, 3) := by decide +kernel
theorem dX11_stand_19 : decode cX11_stand 19 = .ok (.iload_n 2, 1) := by decide +kernel
theorem dX11_stand_20 : decode cX11_stand 20 = .ok (.ireturn, 1) := by decide +kernel
theorem dX11_step_0 : decode cX11_step 0 = .ok (.aload_n 0, 1) := by decide +kernel
theorem dX11_step_1 : decode cX11_step 1 = .ok (.getfield 80, 3) := by decide +kernel
theorem dX11_step_4 : decode cX11_step 4 = .ok (.istore_n 1, 1) := by decide +kernel
theorem dX11_step_5 : decode cX11_step 5 = .ok (.aload_n 0, 1) := by decide +kernel
theorem dX11_step_6 : decode cX11_step 6 = .ok (.getfield 13, 3) := by decide +kernel
theorem dX11_step_9 : decode cX11_step 9 = .ok (.iload_n 1, 1) := by decide +kernel
theorem dX11_step_10 : decode cX11_step 10 = .ok (.iaload, 1) := by decide +kernel
theorem dX11_step_11 : decode cX11_step 11 = .ok (.istore_n 2, 1) := by decide +kernel
theorem dX11_step_12 : decode cX11_step 12 = .ok (.aload_n 0, 1) := by decide +kernel
theorem dX11_step_13 : decode cX11_step 13 = .ok (.getfield 16, 3) := by decide +kernel
theorem dX11_step_16 : decode cX11_step 16 = .ok (.iload_n 1, 1) := by decide +kernel
theorem dX11_step_17 : decode cX11_step 17 = .ok (.iaload, 1) := by decide +kernel
theorem dX11_step_18 : decode cX11_step 18 = .ok (.istore_n 3, 1) := by decide +kernel
theorem dX11_step_19 : decode cX11_step 19 = .ok (.aload_n 0, 1) := by decide +kernel
theorem dX11_step_20 : decode cX11_step 20 = .ok (.getfield 22, 3) := by decide +kernel
theorem dX11_step_23 : decode cX11_step 23 = .ok (.iload_n 2, 1) := by decide +kernel
theorem dX11_step_24 : decode cX11_step 24 = .ok (.iaload, 1) := by decide +kernel
theorem dX11_step_25 : decode cX11_step 25 = .ok (.istore 4, 2) := by decide +kernel
theorem dX11_step_27 : decode cX11_step 27 = .ok (.aload_n 0, 1) := by decide +kernel
theorem dX11_step_28 : decode cX11_step 28 = .ok (.getfield 22, 3) := by decide +kernel
theorem dX11_step_31 : decode cX11_step 31 = .ok (.iload_n 3, 1) := by decide +kernel
theorem dX11_step_32 : decode cX11_step 32 = .ok (.iaload, 1) := by decide +kernel
theorem dX11_step_33 : decode cX11_step 33 = .ok (.istore 5, 2) := by decide +kernel
theorem dX11_step_35 : decode cX11_step 35 = .ok (.iconst 0, 1) := by decide +kernel
theorem dX11_step_36 : decode cX11_step 36 = .ok (.istore 6, 2) := by decide +kernel
theorem dX11_step_38 : decode cX11_step 38 = .ok (.aload_n 0, 1) := by decide +kernel
theorem dX11_step_39 : decode cX11_step 39 = .ok (.getfield 7, 3) := by decide +kernel
theorem dX11_step_42 : decode cX11_step 42 = .ok (.iload_n 1, 1) := by decide +kernel
theorem dX11_step_43 : decode cX11_step 43 = .ok (.iaload, 1) := by decide +kernel
theorem dX11_step_44 : decode cX11_step 44 = .ok (.tableswitch 227 1 11 #[60, 75, 89, 103, 117, 131, 144, 163, 178, 195, 212], 60) := by decide +kernel
theorem dX11_step_104 : decode cX11_step 104 = .ok (.aload_n 0, 1) := by decide +kernel
theorem dX11_step_105 : decode cX11_step 105 = .ok (.getfield 22, 3) := by decide +kernel
theorem dX11_step_108 : decode cX11_step 108 = .ok (.iload_n 2, 1) := by decide +kernel
theorem dX11_step_109 : decode cX11_step 109 = .ok (.aload_n 0, 1) := by decide +kernel
theorem dX11_step_110 : decode cX11_step 110 = .ok (.getfield 19, 3) := by decide +kernel
theorem dX11_step_113 : decode cX11_step 113 = .ok (.iload_n 1, 1) := by decide +kernel
theorem dX11_step_114 : decode cX11_step 114 = .ok (.iaload, 1) := by decide +kernel
theorem dX11_step_115 : decode cX11_step 115 = .ok (.iastore, 1) := by decide +kernel
theorem dX11_step_116 : decode cX11_step 116 = .ok (.goto 158, 3) := by decide +kernel
theorem dX11_step_119 : decode cX11_step 119 = .ok (.aload_n 0, 1) := by decide +kernel
theorem dX11_step_120 : decode cX11_step 120 = .ok (.getfield 22, 3) := by decide +kernel
theorem dX11_step_123 : decode cX11_step 123 = .ok (.iload_n 2, 1) := by decide +kernel
theorem dX11_step_124 : decode cX11_step 124 = .ok (.iload 4, 2) := by decide +kernel
theorem dX11_step_126 : decode cX11_step 126 = .ok (.iload 5, 2) := by decide +kernel
theorem dX11_step_128 : decode cX11_step 128 = .ok (.iadd, 1) := by decide +kernel
theorem dX11_step_129 : decode cX11_step 129 = .ok (.iastore, 1) := by decide +kernel
theorem dX11_step_130 : decode cX11_step 130 = .ok (.goto 144, 3) := by decide +kernel
theorem dX11_step_133 : decode cX11_step 133 = .ok (.aload_n 0, 1) := by decide +kernel
theorem dX11_step_134 : decode cX11_step 134 = .ok (.getfield 22, 3) := by decide +kernel
theorem dX11_step_137 : decode cX11_step 137 = .ok (.iload_n 2, 1) := by decide +kernel
theorem dX11_step_138 : decode cX11_step 138 = .ok (.iload 4, 2) := by decide +kernel
theorem dX11_step_140 : decode cX11_step 140 = .ok (.iload 5, 2) := by decide +kernel
theorem dX11_step_142 : decode cX11_step 142 = .ok (.isub, 1) := by decide +kernel
theorem dX11_step_143 : decode cX11_step 143 = .ok (.iastore, 1) := by decide +kernel
theorem dX11_step_144 : decode cX11_step 144 = .ok (.goto 130, 3) := by decide +kernel
theorem dX11_step_147 : decode cX11_step 147 = .ok (.aload_n 0, 1) := by decide +kernel
theorem dX11_step_148 : decode cX11_step 148 = .ok (.getfield 22, 3) := by decide +kernel
theorem dX11_step_151 : decode cX11_step 151 = .ok (.iload_n 2, 1) := by decide +kernel
theorem dX11_step_152 : decode cX11_step 152 = .ok (.iload 4, 2) := by decide +kernel
theorem dX11_step_154 : decode cX11_step 154 = .ok (.iload 5, 2) := by decide +kernel
theorem dX11_step_156 : decode cX11_step 156 = .ok (.imul, 1) := by decide +kernel
theorem dX11_step_157 : decode cX11_step 157 = .ok (.iastore, 1) := by decide +kernel
theorem dX11_step_158 : decode cX11_step 158 = .ok (.goto 116, 3) := by decide +kernel
theorem dX11_step_161 : decode cX11_step 161 = .ok (.aload_n 0, 1) := by decide +kernel
theorem dX11_step_162 : decode cX11_step 162 = .ok (.getfield 22, 3) := by decide +kernel
theorem dX11_step_165 : decode cX11_step 165 = .ok (.iload_n 2, 1) := by decide +kernel
theorem dX11_step_166 : decode cX11_step 166 = .ok (.iload 4, 2) := by decide +kernel
theorem dX11_step_168 : decode cX11_step 168 = .ok (.iload 5, 2) := by decide +kernel
theorem dX11_step_170 : decode cX11_step 170 = .ok (.iand, 1) := by decide +kernel
theorem dX11_step_171 : decode cX11_step 171 = .ok (.iastore, 1) := by decide +kernel
theorem dX11_step_172 : decode cX11_step 172 = .ok (.goto 102, 3) := by decide +kernel
theorem dX11_step_175 : decode cX11_step 175 = .ok (.aload_n 0, 1) := by decide +kernel
theorem dX11_step_176 : decode cX11_step 176 = .ok (.getfield 22, 3) := by decide +kernel
theorem dX11_step_179 : decode cX11_step 179 = .ok (.iload_n 2, 1) := by decide +kernel
theorem dX11_step_180 : decode cX11_step 180 = .ok (.iload 4, 2) := by decide +kernel
theorem dX11_step_182 : decode cX11_step 182 = .ok (.iconst 1, 1) := by decide +kernel
theorem dX11_step_183 : decode cX11_step 183 = .ok (.iushr, 1) := by decide +kernel
theorem dX11_step_184 : decode cX11_step 184 = .ok (.iastore, 1) := by decide +kernel
theorem dX11_step_185 : decode cX11_step 185 = .ok (.goto 89, 3) := by decide +kernel
theorem dX11_step_188 : decode cX11_step 188 = .ok (.aload_n 0, 1) := by decide +kernel
theorem dX11_step_189 : decode cX11_step 189 = .ok (.getfield 22, 3) := by decide +kernel
theorem dX11_step_192 : decode cX11_step 192 = .ok (.iload_n 2, 1) := by decide +kernel
theorem dX11_step_193 : decode cX11_step 193 = .ok (.aload_n 0, 1) := by decide +kernel
theorem dX11_step_194 : decode cX11_step 194 = .ok (.getfield 25, 3) := by decide +kernel
theorem dX11_step_197 : decode cX11_step 197 = .ok (.iload 5, 2) := by decide +kernel
theorem dX11_step_199 : decode cX11_step 199 = .ok (.bipush 31, 2) := by decide +kernel
theorem dX11_step_201 : decode cX11_step 201 = .ok (.iand, 1) := by decide +kernel
theorem dX11_step_202 : decode cX11_step 202 = .ok (.iaload, 1) := by decide +kernel
theorem dX11_step_203 : decode cX11_step 203 = .ok (.iastore, 1) := by decide +kernel
theorem dX11_step_204 : decode cX11_step 204 = .ok (.goto 70, 3) := by decide +kernel
theorem dX11_step_207 : decode cX11_step 207 = .ok (.aload_n 0, 1) := by decide +kernel
theorem dX11_step_208 : decode cX11_step 208 = .ok (.getfield 25, 3) := by decide +kernel
theorem dX11_step_211 : decode cX11_step 211 = .ok (.iload 5, 2) := by decide +kernel
theorem dX11_step_213 : decode cX11_step 213 = .ok (.bipush 31, 2) := by decide +kernel
theorem dX11_step_215 : decode cX11_step 215 = .ok (.iand, 1) := by decide +kernel
theorem dX11_step_216 : decode cX11_step 216 = .ok (.iload 4, 2) := by decide +kernel
theorem dX11_step_218 : decode cX11_step 218 = .ok (.iastore, 1) := by decide +kernel
theorem dX11_step_219 : decode cX11_step 219 = .ok (.goto 55, 3) := by decide +kernel
theorem dX11_step_222 : decode cX11_step 222 = .ok (.iload 4, 2) := by decide +kernel
theorem dX11_step_224 : decode cX11_step 224 = .ok (.iload 5, 2) := by decide +kernel
theorem dX11_step_226 : decode cX11_step 226 = .ok (.if_icmp .ge 7, 3) := by decide +kernel
theorem dX11_step_229 : decode cX11_step 229 = .ok (.iconst 1, 1) := by decide +kernel
theorem dX11_step_230 : decode cX11_step 230 = .ok (.goto 4, 3) := by decide +kernel
theorem dX11_step_233 : decode cX11_step 233 = .ok (.iconst 0, 1) := by decide +kernel
theorem dX11_step_234 : decode cX11_step 234 = .ok (.istore 6, 2) := by decide +kernel
theorem dX11_step_236 : decode cX11_step 236 = .ok (.goto 38, 3) := by decide +kernel
theorem dX11_step_239 : decode cX11_step 239 = .ok (.iload 4, 2) := by decide +kernel
theorem dX11_step_241 : decode cX11_step 241 = .ok (.iload 5, 2) := by decide +kernel
theorem dX11_step_243 : decode cX11_step 243 = .ok (.if_icmp .ne 7, 3) := by decide +kernel
theorem dX11_step_246 : decode cX11_step 246 = .ok (.iconst 1, 1) := by decide +kernel
theorem dX11_step_247 : decode cX11_step 247 = .ok (.goto 4, 3) := by decide +kernel
theorem dX11_step_250 : decode cX11_step 250 = .ok (.iconst 0, 1) := by decide +kernel
theorem dX11_step_251 : decode cX11_step 251 = .ok (.istore 6, 2) := by decide +kernel
theorem dX11_step_253 : decode cX11_step 253 = .ok (.goto 21, 3) := by decide +kernel
theorem dX11_step_256 : decode cX11_step 256 = .ok (.iload 4, 2) := by decide +kernel
theorem dX11_step_258 : decode cX11_step 258 = .ok (.ifCond .eq 7, 3) := by decide +kernel
theorem dX11_step_261 : decode cX11_step 261 = .ok (.iconst 1, 1) := by decide +kernel
theorem dX11_step_262 : decode cX11_step 262 = .ok (.goto 4, 3) := by decide +kernel
theorem dX11_step_265 : decode cX11_step 265 = .ok (.iconst 0, 1) := by decide +kernel
theorem dX11_step_266 : decode cX11_step 266 = .ok (.istore 6, 2) := by decide +kernel
theorem dX11_step_268 : decode cX11_step 268 = .ok (.goto 6, 3) := by decide +kernel
theorem dX11_step_271 : decode cX11_step 271 = .ok (.iconst 1, 1) := by decide +kernel
theorem dX11_step_272 : decode cX11_step 272 = .ok (.istore 6, 2) := by decide +kernel
theorem dX11_step_274 : decode cX11_step 274 = .ok (.aload_n 0, 1) := by decide +kernel
theorem dX11_step_275 : decode cX11_step 275 = .ok (.getfield 7, 3) := by decide +kernel
theorem dX11_step_278 : decode cX11_step 278 = .ok (.iload_n 1, 1) := by decide +kernel
theorem dX11_step_279 : decode cX11_step 279 = .ok (.iaload, 1) := by decide +kernel
theorem dX11_step_280 : decode cX11_step 280 = .ok (.bipush 9, 2) := by decide +kernel
theorem dX11_step_282 : decode cX11_step 282 = .ok (.bipush 11, 2) := by decide +kernel
theorem dX11_step_284 : decode cX11_step 284 = .ok (.invokestatic 72, 3) := by decide +kernel
theorem dX11_step_287 : decode cX11_step 287 = .ok (.ifCond .eq 18, 3) := by decide +kernel
theorem dX11_step_290 : decode cX11_step 290 = .ok (.aload_n 0, 1) := by decide +kernel
theorem dX11_step_291 : decode cX11_step 291 = .ok (.iload_n 1, 1) := by decide +kernel
theorem dX11_step_292 : decode cX11_step 292 = .ok (.iload 6, 2) := by decide +kernel
theorem dX11_step_294 : decode cX11_step 294 = .ok (.ifCond .eq 7, 3) := by decide +kernel
theorem dX11_step_297 : decode cX11_step 297 = .ok (.iconst 1, 1) := by decide +kernel
theorem dX11_step_298 : decode cX11_step 298 = .ok (.goto 4, 3) := by decide +kernel
theorem dX11_step_301 : decode cX11_step 301 = .ok (.iconst 0, 1) := by decide +kernel
theorem dX11_step_302 : decode cX11_step 302 = .ok (.invokevirtual 84, 3) := by decide +kernel
theorem dX11_step_305 : decode cX11_step 305 = .ok (.aload_n 0, 1) := by decide +kernel
theorem dX11_step_306 : decode cX11_step 306 = .ok (.iload 6, 2) := by decide +kernel
theorem dX11_step_308 : decode cX11_step 308 = .ok (.ifCond .eq 12, 3) := by decide +kernel
theorem dX11_step_311 : decode cX11_step 311 = .ok (.aload_n 0, 1) := by decide +kernel
theorem dX11_step_312 : decode cX11_step 312 = .ok (.getfield 19, 3) := by decide +kernel
theorem dX11_step_315 : decode cX11_step 315 = .ok (.iload_n 1, 1) := by decide +kernel
theorem dX11_step_316 : decode cX11_step 316 = .ok (.iaload, 1) := by decide +kernel
theorem dX11_step_317 : decode cX11_step 317 = .ok (.goto 9, 3) := by decide +kernel
theorem dX11_step_320 : decode cX11_step 320 = .ok (.iload_n 1, 1) := by decide +kernel
theorem dX11_step_321 : decode cX11_step 321 = .ok (.iconst 1, 1) := by decide +kernel
theorem dX11_step_322 : decode cX11_step 322 = .ok (.iadd, 1) := by decide +kernel
theorem dX11_step_323 : decode cX11_step 323 = .ok (.bipush 63, 2) := by decide +kernel
theorem dX11_step_325 : decode cX11_step 325 = .ok (.iand, 1) := by decide +kernel
theorem dX11_step_326 : decode cX11_step 326 = .ok (.putfield 80, 3) := by decide +kernel
theorem dX11_step_329 : decode cX11_step 329 = .ok (.aload_n 0, 1) := by decide +kernel
theorem dX11_step_330 : decode cX11_step 330 = .ok (.dup, 1) := by decide +kernel
theorem dX11_step_331 : decode cX11_step 331 = .ok (.getfield 88, 3) := by decide +kernel
theorem dX11_step_334 : decode cX11_step 334 = .ok (.iconst 1, 1) := by decide +kernel
theorem dX11_step_335 : decode cX11_step 335 = .ok (.iadd, 1) := by decide +kernel
theorem dX11_step_336 : decode cX11_step 336 = .ok (.putfield 88, 3) := by decide +kernel
theorem dX11_step_339 : decode cX11_step 339 = .ok (.return_, 1) := by decide +kernel
theorem dX11_run_0 : decode cX11_run 0 = .ok (.iload_n 1, 1) := by decide +kernel
theorem dX11_run_1 : decode cX11_run 1 = .ok (.iconst 0, 1) := by decide +kernel
theorem dX11_run_2 : decode cX11_run 2 = .ok (.sipush 2000, 3) := by decide +kernel
theorem dX11_run_5 : decode cX11_run 5 = .ok (.invokestatic 72, 3) := by decide +kernel
theorem dX11_run_8 : decode cX11_run 8 = .ok (.ifCond .ne 6, 3) := by decide +kernel
theorem dX11_run_11 : decode cX11_run 11 = .ok (.bipush (-2), 2) := by decide +kernel
theorem dX11_run_13 : decode cX11_run 13 = .ok (.ireturn, 1) := by decide +kernel
theorem dX11_run_14 : decode cX11_run 14 = .ok (.iconst 0, 1) := by decide +kernel
theorem dX11_run_15 : decode cX11_run 15 = .ok (.istore_n 2, 1) := by decide +kernel
theorem dX11_run_16 : decode cX11_run 16 = .ok (.iload_n 2, 1) := by decide +kernel
theorem dX11_run_17 : decode cX11_run 17 = .ok (.iload_n 1, 1) := by decide +kernel
theorem dX11_run_18 : decode cX11_run 18 = .ok (.if_icmp .ge 25, 3) := by decide +kernel
theorem dX11_run_21 : decode cX11_run 21 = .ok (.aload_n 0, 1) := by decide +kernel
theorem dX11_run_22 : decode cX11_run 22 = .ok (.getfield 7, 3) := by decide +kernel
theorem dX11_run_25 : decode cX11_run 25 = .ok (.aload_n 0, 1) := by decide +kernel
theorem dX11_run_26 : decode cX11_run 26 = .ok (.getfield 80, 3) := by decide +kernel
theorem dX11_run_29 : decode cX11_run 29 = .ok (.iaload, 1) := by decide +kernel
theorem dX11_run_30 : decode cX11_run 30 = .ok (.ifCond .eq 13, 3) := by decide +kernel
theorem dX11_run_33 : decode cX11_run 33 = .ok (.aload_n 0, 1) := by decide +kernel
theorem dX11_run_34 : decode cX11_run 34 = .ok (.invokevirtual 91, 3) := by decide +kernel
theorem dX11_run_37 : decode cX11_run 37 = .ok (.iinc 2 1, 3) := by decide +kernel
theorem dX11_run_40 : decode cX11_run 40 = .ok (.goto (-24), 3) := by decide +kernel
theorem dX11_run_43 : decode cX11_run 43 = .ok (.iload_n 2, 1) := by decide +kernel
theorem dX11_run_44 : decode cX11_run 44 = .ok (.ireturn, 1) := by decide +kernel
theorem dX11_comes_0 : decode cX11_comes 0 = .ok (.iconst 0, 1) := by decide +kernel
theorem dX11_comes_1 : decode cX11_comes 1 = .ok (.istore_n 3, 1) := by decide +kernel
theorem dX11_comes_2 : decode cX11_comes 2 = .ok (.iload_n 3, 1) := by decide +kernel
theorem dX11_comes_3 : decode cX11_comes 3 = .ok (.aload_n 0, 1) := by decide +kernel
theorem dX11_comes_4 : decode cX11_comes 4 = .ok (.getfield 94, 3) := by decide +kernel
theorem dX11_comes_7 : decode cX11_comes 7 = .ok (.if_icmp .ge 16, 3) := by decide +kernel
theorem dX11_comes_10 : decode cX11_comes 10 = .ok (.aload_n 0, 1) := by decide +kernel
theorem dX11_comes_11 : decode cX11_comes 11 = .ok (.iload_n 3, 1) := by decide +kernel
theorem dX11_comes_12 : decode cX11_comes 12 = .ok (.iload_n 1, 1) := by decide +kernel
theorem dX11_comes_13 : decode cX11_comes 13 = .ok (.iload_n 2, 1) := by decide +kernel
theorem dX11_comes_14 : decode cX11_comes 14 = .ok (.invokevirtual 97, 3) := by decide +kernel
theorem dX11_comes_17 : decode cX11_comes 17 = .ok (.iinc 3 1, 3) := by decide +kernel
theorem dX11_comes_20 : decode cX11_comes 20 = .ok (.goto (-18), 3) := by decide +kernel
theorem dX11_comes_23 : decode cX11_comes 23 = .ok (.aload_n 0, 1) := by decide +kernel
theorem dX11_comes_24 : decode cX11_comes 24 = .ok (.getfield 101, 3) := by decide +kernel
theorem dX11_comes_27 : decode cX11_comes 27 = .ok (.sipush 3000, 3) := by decide +kernel
theorem dX11_comes_30 : decode cX11_comes 30 = .ok (.if_icmp .ge 33, 3) := by decide +kernel
theorem dX11_comes_33 : decode cX11_comes 33 = .ok (.aload_n 0, 1) := by decide +kernel
theorem dX11_comes_34 : decode cX11_comes 34 = .ok (.getfield 28, 3) := by decide +kernel
theorem dX11_comes_37 : decode cX11_comes 37 = .ok (.aload_n 0, 1) := by decide +kernel
theorem dX11_comes_38 : decode cX11_comes 38 = .ok (.getfield 101, 3) := by decide +kernel
theorem dX11_comes_41 : decode cX11_comes 41 = .ok (.iload_n 1, 1) := by decide +kernel
theorem dX11_comes_42 : decode cX11_comes 42 = .ok (.iastore, 1) := by decide +kernel
theorem dX11_comes_43 : decode cX11_comes 43 = .ok (.aload_n 0, 1) := by decide +kernel
theorem dX11_comes_44 : decode cX11_comes 44 = .ok (.getfield 31, 3) := by decide +kernel
theorem dX11_comes_47 : decode cX11_comes 47 = .ok (.aload_n 0, 1) := by decide +kernel
theorem dX11_comes_48 : decode cX11_comes 48 = .ok (.getfield 101, 3) := by decide +kernel
theorem dX11_comes_51 : decode cX11_comes 51 = .ok (.iload_n 2, 1) := by decide +kernel
theorem dX11_comes_52 : decode cX11_comes 52 = .ok (.iastore, 1) := by decide +kernel
theorem dX11_comes_53 : decode cX11_comes 53 = .ok (.aload_n 0, 1) := by decide +kernel
theorem dX11_comes_54 : decode cX11_comes 54 = .ok (.dup, 1) := by decide +kernel
theorem dX11_comes_55 : decode cX11_comes 55 = .ok (.getfield 101, 3) := by decide +kernel
theorem dX11_comes_58 : decode cX11_comes 58 = .ok (.iconst 1, 1) := by decide +kernel
theorem dX11_comes_59 : decode cX11_comes 59 = .ok (.iadd, 1) := by decide +kernel
theorem dX11_comes_60 : decode cX11_comes 60 = .ok (.putfield 101, 3) := by decide +kernel
theorem dX11_comes_63 : decode cX11_comes 63 = .ok (.aload_n 0, 1) := by decide +kernel
theorem dX11_comes_64 : decode cX11_comes 64 = .ok (.dup, 1) := by decide +kernel
theorem dX11_comes_65 : decode cX11_comes 65 = .ok (.getfield 104, 3) := by decide +kernel
theorem dX11_comes_68 : decode cX11_comes 68 = .ok (.iconst 1, 1) := by decide +kernel
theorem dX11_comes_69 : decode cX11_comes 69 = .ok (.iadd, 1) := by decide +kernel
theorem dX11_comes_70 : decode cX11_comes 70 = .ok (.putfield 104, 3) := by decide +kernel
theorem dX11_comes_73 : decode cX11_comes 73 = .ok (.return_, 1) := by decide +kernel
theorem dX11_branch_0 : decode cX11_branch 0 = .ok (.iload_n 1, 1) := by decide +kernel
theorem dX11_branch_1 : decode cX11_branch 1 = .ok (.invokestatic 76, 3) := by decide +kernel
theorem dX11_branch_4 : decode cX11_branch 4 = .ok (.ifCond .ne 5, 3) := by decide +kernel
theorem dX11_branch_7 : decode cX11_branch 7 = .ok (.iconst (-1), 1) := by decide +kernel
theorem dX11_branch_8 : decode cX11_branch 8 = .ok (.ireturn, 1) := by decide +kernel
theorem dX11_branch_9 : decode cX11_branch 9 = .ok (.iload_n 2, 1) := by decide +kernel
theorem dX11_branch_10 : decode cX11_branch 10 = .ok (.iconst 0, 1) := by decide +kernel
theorem dX11_branch_11 : decode cX11_branch 11 = .ok (.iconst 1, 1) := by decide +kernel
theorem dX11_branch_12 : decode cX11_branch 12 = .ok (.invokestatic 72, 3) := by decide +kernel
theorem dX11_branch_15 : decode cX11_branch 15 = .ok (.ifCond .ne 6, 3) := by decide +kernel
theorem dX11_branch_18 : decode cX11_branch 18 = .ok (.bipush (-2), 2) := by decide +kernel
theorem dX11_branch_20 : decode cX11_branch 20 = .ok (.ireturn, 1) := by decide +kernel
theorem dX11_branch_21 : decode cX11_branch 21 = .ok (.aload_n 0, 1) := by decide +kernel
theorem dX11_branch_22 : decode cX11_branch 22 = .ok (.iload_n 1, 1) := by decide +kernel
theorem dX11_branch_23 : decode cX11_branch 23 = .ok (.iload_n 2, 1) := by decide +kernel
theorem dX11_branch_24 : decode cX11_branch 24 = .ok (.invokevirtual 84, 3) := by decide +kernel
theorem dX11_branch_27 : decode cX11_branch 27 = .ok (.aload_n 0, 1) := by decide +kernel
theorem dX11_branch_28 : decode cX11_branch 28 = .ok (.getfield 104, 3) := by decide +kernel
theorem dX11_branch_31 : decode cX11_branch 31 = .ok (.ireturn, 1) := by decide +kernel
theorem dX11_at_0 : decode cX11_at 0 = .ok (.iload_n 1, 1) := by decide +kernel
theorem dX11_at_1 : decode cX11_at 1 = .ok (.iconst 0, 1) := by decide +kernel
theorem dX11_at_2 : decode cX11_at 2 = .ok (.aload_n 0, 1) := by decide +kernel
theorem dX11_at_3 : decode cX11_at 3 = .ok (.getfield 101, 3) := by decide +kernel
theorem dX11_at_6 : decode cX11_at 6 = .ok (.iconst 1, 1) := by decide +kernel
theorem dX11_at_7 : decode cX11_at 7 = .ok (.isub, 1) := by decide +kernel
theorem dX11_at_8 : decode cX11_at 8 = .ok (.invokestatic 72, 3) := by decide +kernel
theorem dX11_at_11 : decode cX11_at 11 = .ok (.ifCond .ne 5, 3) := by decide +kernel
theorem dX11_at_14 : decode cX11_at 14 = .ok (.iconst (-1), 1) := by decide +kernel
theorem dX11_at_15 : decode cX11_at 15 = .ok (.ireturn, 1) := by decide +kernel
theorem dX11_at_16 : decode cX11_at 16 = .ok (.iload_n 2, 1) := by decide +kernel
theorem dX11_at_17 : decode cX11_at 17 = .ok (.ifCond .ne 12, 3) := by decide +kernel
theorem dX11_at_20 : decode cX11_at 20 = .ok (.aload_n 0, 1) := by decide +kernel
theorem dX11_at_21 : decode cX11_at 21 = .ok (.getfield 28, 3) := by decide +kernel
theorem dX11_at_24 : decode cX11_at 24 = .ok (.iload_n 1, 1) := by decide +kernel
theorem dX11_at_25 : decode cX11_at 25 = .ok (.iaload, 1) := by decide +kernel
theorem dX11_at_26 : decode cX11_at 26 = .ok (.goto 19, 3) := by decide +kernel
theorem dX11_at_29 : decode cX11_at 29 = .ok (.iload_n 2, 1) := by decide +kernel
theorem dX11_at_30 : decode cX11_at 30 = .ok (.iconst 1, 1) := by decide +kernel
theorem dX11_at_31 : decode cX11_at 31 = .ok (.if_icmp .ne 12, 3) := by decide +kernel
theorem dX11_at_34 : decode cX11_at 34 = .ok (.aload_n 0, 1) := by decide +kernel
theorem dX11_at_35 : decode cX11_at 35 = .ok (.getfield 31, 3) := by decide +kernel
theorem dX11_at_38 : decode cX11_at 38 = .ok (.iload_n 1, 1) := by decide +kernel
theorem dX11_at_39 : decode cX11_at 39 = .ok (.iaload, 1) := by decide +kernel
theorem dX11_at_40 : decode cX11_at 40 = .ok (.goto 5, 3) := by decide +kernel
theorem dX11_at_43 : decode cX11_at 43 = .ok (.bipush (-2), 2) := by decide +kernel
theorem dX11_at_45 : decode cX11_at 45 = .ok (.ireturn, 1) := by decide +kernel
theorem dX11_isGuesser_0 : decode cX11_isGuesser 0 = .ok (.iload_n 1, 1) := by decide +kernel
theorem dX11_isGuesser_1 : decode cX11_isGuesser 1 = .ok (.iconst 0, 1) := by decide +kernel
theorem dX11_isGuesser_2 : decode cX11_isGuesser 2 = .ok (.aload_n 0, 1) := by decide +kernel
theorem dX11_isGuesser_3 : decode cX11_isGuesser 3 = .ok (.getfield 94, 3) := by decide +kernel
theorem dX11_isGuesser_6 : decode cX11_isGuesser 6 = .ok (.iconst 1, 1) := by decide +kernel
theorem dX11_isGuesser_7 : decode cX11_isGuesser 7 = .ok (.isub, 1) := by decide +kernel
theorem dX11_isGuesser_8 : decode cX11_isGuesser 8 = .ok (.invokestatic 72, 3) := by decide +kernel
theorem dX11_isGuesser_11 : decode cX11_isGuesser 11 = .ok (.ireturn, 1) := by decide +kernel
theorem dX11_fits_0 : decode cX11_fits 0 = .ok (.iload_n 0, 1) := by decide +kernel
theorem dX11_fits_1 : decode cX11_fits 1 = .ok (.tableswitch 198 0 7 #[47, 54, 62, 88, 123, 148, 183, 190], 47) := by decide +kernel
theorem dX11_fits_48 : decode cX11_fits 48 = .ok (.iload_n 1, 1) := by decide +kernel
theorem dX11_fits_49 : decode cX11_fits 49 = .ok (.iconst 0, 1) := by decide +kernel
theorem dX11_fits_50 : decode cX11_fits 50 = .ok (.iconst 2, 1) := by decide +kernel
theorem dX11_fits_51 : decode cX11_fits 51 = .ok (.invokestatic 72, 3) := by decide +kernel
theorem dX11_fits_54 : decode cX11_fits 54 = .ok (.ireturn, 1) := by decide +kernel
theorem dX11_fits_55 : decode cX11_fits 55 = .ok (.iload_n 1, 1) := by decide +kernel
theorem dX11_fits_56 : decode cX11_fits 56 = .ok (.iconst 0, 1) := by decide +kernel
theorem dX11_fits_57 : decode cX11_fits 57 = .ok (.bipush 6, 2) := by decide +kernel
theorem dX11_fits_59 : decode cX11_fits 59 = .ok (.invokestatic 72, 3) := by decide +kernel
theorem dX11_fits_62 : decode cX11_fits 62 = .ok (.ireturn, 1) := by decide +kernel
theorem dX11_fits_63 : decode cX11_fits 63 = .ok (.iload_n 1, 1) := by decide +kernel
theorem dX11_fits_64 : decode cX11_fits 64 = .ok (.iconst 0, 1) := by decide +kernel
theorem dX11_fits_65 : decode cX11_fits 65 = .ok (.bipush 8, 2) := by decide +kernel
theorem dX11_fits_67 : decode cX11_fits 67 = .ok (.invokestatic 72, 3) := by decide +kernel
theorem dX11_fits_70 : decode cX11_fits 70 = .ok (.ifCond .eq 17, 3) := by decide +kernel
theorem dX11_fits_73 : decode cX11_fits 73 = .ok (.iload_n 2, 1) := by decide +kernel
theorem dX11_fits_74 : decode cX11_fits 74 = .ok (.iconst 0, 1) := by decide +kernel
theorem dX11_fits_75 : decode cX11_fits 75 = .ok (.bipush 8, 2) := by decide +kernel
theorem dX11_fits_77 : decode cX11_fits 77 = .ok (.invokestatic 72, 3) := by decide +kernel
theorem dX11_fits_80 : decode cX11_fits 80 = .ok (.ifCond .eq 7, 3) := by decide +kernel
theorem dX11_fits_83 : decode cX11_fits 83 = .ok (.iconst 1, 1) := by decide +kernel
theorem dX11_fits_84 : decode cX11_fits 84 = .ok (.goto 4, 3) := by decide +kernel
theorem dX11_fits_87 : decode cX11_fits 87 = .ok (.iconst 0, 1) := by decide +kernel
theorem dX11_fits_88 : decode cX11_fits 88 = .ok (.ireturn, 1) := by decide +kernel
theorem dX11_fits_89 : decode cX11_fits 89 = .ok (.iload_n 1, 1) := by decide +kernel
theorem dX11_fits_90 : decode cX11_fits 90 = .ok (.iconst 0, 1) := by decide +kernel
theorem dX11_fits_91 : decode cX11_fits 91 = .ok (.bipush 8, 2) := by decide +kernel
theorem dX11_fits_93 : decode cX11_fits 93 = .ok (.invokestatic 72, 3) := by decide +kernel
theorem dX11_fits_96 : decode cX11_fits 96 = .ok (.ifCond .eq 26, 3) := by decide +kernel
theorem dX11_fits_99 : decode cX11_fits 99 = .ok (.iload_n 2, 1) := by decide +kernel
theorem dX11_fits_100 : decode cX11_fits 100 = .ok (.iconst 0, 1) := by decide +kernel
theorem dX11_fits_101 : decode cX11_fits 101 = .ok (.bipush 8, 2) := by decide +kernel
theorem dX11_fits_103 : decode cX11_fits 103 = .ok (.invokestatic 72, 3) := by decide +kernel
theorem dX11_fits_106 : decode cX11_fits 106 = .ok (.ifCond .eq 16, 3) := by decide +kernel
theorem dX11_fits_109 : decode cX11_fits 109 = .ok (.iload_n 3, 1) := by decide +kernel
theorem dX11_fits_110 : decode cX11_fits 110 = .ok (.iconst 0, 1) := by decide +kernel
theorem dX11_fits_111 : decode cX11_fits 111 = .ok (.iconst 1, 1) := by decide +kernel
theorem dX11_fits_112 : decode cX11_fits 112 = .ok (.invokestatic 72, 3) := by decide +kernel
theorem dX11_fits_115 : decode cX11_fits 115 = .ok (.ifCond .eq 7, 3) := by decide +kernel
theorem dX11_fits_118 : decode cX11_fits 118 = .ok (.iconst 1, 1) := by decide +kernel
theorem dX11_fits_119 : decode cX11_fits 119 = .ok (.goto 4, 3) := by decide +kernel
theorem dX11_fits_122 : decode cX11_fits 122 = .ok (.iconst 0, 1) := by decide +kernel
theorem dX11_fits_123 : decode cX11_fits 123 = .ok (.ireturn, 1) := by decide +kernel
theorem dX11_fits_124 : decode cX11_fits 124 = .ok (.iload_n 1, 1) := by decide +kernel
theorem dX11_fits_125 : decode cX11_fits 125 = .ok (.iconst 1, 1) := by decide +kernel
theorem dX11_fits_126 : decode cX11_fits 126 = .ok (.bipush 7, 2) := by decide +kernel
theorem dX11_fits_128 : decode cX11_fits 128 = .ok (.invokestatic 72, 3) := by decide +kernel
theorem dX11_fits_131 : decode cX11_fits 131 = .ok (.ifCond .eq 16, 3) := by decide +kernel
theorem dX11_fits_134 : decode cX11_fits 134 = .ok (.iload_n 2, 1) := by decide +kernel
theorem dX11_fits_135 : decode cX11_fits 135 = .ok (.iconst 1, 1) := by decide +kernel
theorem dX11_fits_136 : decode cX11_fits 136 = .ok (.iconst 4, 1) := by decide +kernel
theorem dX11_fits_137 : decode cX11_fits 137 = .ok (.invokestatic 72, 3) := by decide +kernel
theorem dX11_fits_140 : decode cX11_fits 140 = .ok (.ifCond .eq 7, 3) := by decide +kernel
theorem dX11_fits_143 : decode cX11_fits 143 = .ok (.iconst 1, 1) := by decide +kernel
theorem dX11_fits_144 : decode cX11_fits 144 = .ok (.goto 4, 3) := by decide +kernel
theorem dX11_fits_147 : decode cX11_fits 147 = .ok (.iconst 0, 1) := by decide +kernel
theorem dX11_fits_148 : decode cX11_fits 148 = .ok (.ireturn, 1) := by decide +kernel
theorem dX11_fits_149 : decode cX11_fits 149 = .ok (.iload_n 1, 1) := by decide +kernel
theorem dX11_fits_150 : decode cX11_fits 150 = .ok (.iconst 0, 1) := by decide +kernel
theorem dX11_fits_151 : decode cX11_fits 151 = .ok (.iconst 4, 1) := by decide +kernel
theorem dX11_fits_152 : decode cX11_fits 152 = .ok (.invokestatic 72, 3) := by decide +kernel
theorem dX11_fits_155 : decode cX11_fits 155 = .ok (.ifCond .eq 27, 3) := by decide +kernel
theorem dX11_fits_158 : decode cX11_fits 158 = .ok (.iload_n 2, 1) := by decide +kernel
theorem dX11_fits_159 : decode cX11_fits 159 = .ok (.iconst 1, 1) := by decide +kernel
theorem dX11_fits_160 : decode cX11_fits 160 = .ok (.bipush 8, 2) := by decide +kernel
theorem dX11_fits_162 : decode cX11_fits 162 = .ok (.invokestatic 72, 3) := by decide +kernel
theorem dX11_fits_165 : decode cX11_fits 165 = .ok (.ifCond .eq 17, 3) := by decide +kernel
theorem dX11_fits_168 : decode cX11_fits 168 = .ok (.iload_n 3, 1) := by decide +kernel
theorem dX11_fits_169 : decode cX11_fits 169 = .ok (.iconst 0, 1) := by decide +kernel
theorem dX11_fits_170 : decode cX11_fits 170 = .ok (.bipush 50, 2) := by decide +kernel
theorem dX11_fits_172 : decode cX11_fits 172 = .ok (.invokestatic 72, 3) := by decide +kernel
theorem dX11_fits_175 : decode cX11_fits 175 = .ok (.ifCond .eq 7, 3) := by decide +kernel
theorem dX11_fits_178 : decode cX11_fits 178 = .ok (.iconst 1, 1) := by decide +kernel
theorem dX11_fits_179 : decode cX11_fits 179 = .ok (.goto 4, 3) := by decide +kernel
theorem dX11_fits_182 : decode cX11_fits 182 = .ok (.iconst 0, 1) := by decide +kernel
theorem dX11_fits_183 : decode cX11_fits 183 = .ok (.ireturn, 1) := by decide +kernel
theorem dX11_fits_184 : decode cX11_fits 184 = .ok (.iload_n 1, 1) := by decide +kernel
theorem dX11_fits_185 : decode cX11_fits 185 = .ok (.iconst 1, 1) := by decide +kernel
theorem dX11_fits_186 : decode cX11_fits 186 = .ok (.iconst 3, 1) := by decide +kernel
theorem dX11_fits_187 : decode cX11_fits 187 = .ok (.invokestatic 72, 3) := by decide +kernel
theorem dX11_fits_190 : decode cX11_fits 190 = .ok (.ireturn, 1) := by decide +kernel
theorem dX11_fits_191 : decode cX11_fits 191 = .ok (.iload_n 3, 1) := by decide +kernel
theorem dX11_fits_192 : decode cX11_fits 192 = .ok (.iconst 0, 1) := by decide +kernel
theorem dX11_fits_193 : decode cX11_fits 193 = .ok (.bipush 6, 2) := by decide +kernel
theorem dX11_fits_195 : decode cX11_fits 195 = .ok (.invokestatic 72, 3) := by decide +kernel
theorem dX11_fits_198 : decode cX11_fits 198 = .ok (.ireturn, 1) := by decide +kernel
theorem dX11_fits_199 : decode cX11_fits 199 = .ok (.iconst 0, 1) := by decide +kernel
theorem dX11_fits_200 : decode cX11_fits 200 = .ok (.ireturn, 1) := by decide +kernel
theorem dX11_begin_0 : decode cX11_begin 0 = .ok (.sipush 812, 3) := by decide +kernel
theorem dX11_begin_3 : decode cX11_begin 3 = .ok (.iload_n 1, 1) := by decide +kernel
theorem dX11_begin_4 : decode cX11_begin 4 = .ok (.imul, 1) := by decide +kernel
theorem dX11_begin_5 : decode cX11_begin 5 = .ok (.istore_n 2, 1) := by decide +kernel
theorem dX11_begin_6 : decode cX11_begin 6 = .ok (.iconst 0, 1) := by decide +kernel
theorem dX11_begin_7 : decode cX11_begin 7 = .ok (.istore_n 3, 1) := by decide +kernel
theorem dX11_begin_8 : decode cX11_begin 8 = .ok (.iload_n 3, 1) := by decide +kernel
theorem dX11_begin_9 : decode cX11_begin 9 = .ok (.sipush 812, 3) := by decide +kernel
theorem dX11_begin_12 : decode cX11_begin 12 = .ok (.if_icmp .ge 18, 3) := by decide +kernel
theorem dX11_begin_15 : decode cX11_begin 15 = .ok (.aload_n 0, 1) := by decide +kernel
theorem dX11_begin_16 : decode cX11_begin 16 = .ok (.getfield 49, 3) := by decide +kernel
theorem dX11_begin_19 : decode cX11_begin 19 = .ok (.iload_n 2, 1) := by decide +kernel
theorem dX11_begin_20 : decode cX11_begin 20 = .ok (.iload_n 3, 1) := by decide +kernel
theorem dX11_begin_21 : decode cX11_begin 21 = .ok (.iadd, 1) := by decide +kernel
theorem dX11_begin_22 : decode cX11_begin 22 = .ok (.iconst 0, 1) := by decide +kernel
theorem dX11_begin_23 : decode cX11_begin 23 = .ok (.iastore, 1) := by decide +kernel
theorem dX11_begin_24 : decode cX11_begin 24 = .ok (.iinc 3 1, 3) := by decide +kernel
theorem dX11_begin_27 : decode cX11_begin 27 = .ok (.goto (-19), 3) := by decide +kernel
theorem dX11_begin_30 : decode cX11_begin 30 = .ok (.iconst 0, 1) := by decide +kernel
theorem dX11_begin_31 : decode cX11_begin 31 = .ok (.istore_n 3, 1) := by decide +kernel
theorem dX11_begin_32 : decode cX11_begin 32 = .ok (.iload_n 3, 1) := by decide +kernel
theorem dX11_begin_33 : decode cX11_begin 33 = .ok (.sipush 256, 3) := by decide +kernel
theorem dX11_begin_36 : decode cX11_begin 36 = .ok (.if_icmp .ge 22, 3) := by decide +kernel
theorem dX11_begin_39 : decode cX11_begin 39 = .ok (.aload_n 0, 1) := by decide +kernel
theorem dX11_begin_40 : decode cX11_begin 40 = .ok (.getfield 49, 3) := by decide +kernel
theorem dX11_begin_43 : decode cX11_begin 43 = .ok (.iload_n 2, 1) := by decide +kernel
theorem dX11_begin_44 : decode cX11_begin 44 = .ok (.sipush 512, 3) := by decide +kernel
theorem dX11_begin_47 : decode cX11_begin 47 = .ok (.iadd, 1) := by decide +kernel
theorem dX11_begin_48 : decode cX11_begin 48 = .ok (.iload_n 3, 1) := by decide +kernel
theorem dX11_begin_49 : decode cX11_begin 49 = .ok (.iadd, 1) := by decide +kernel
theorem dX11_begin_50 : decode cX11_begin 50 = .ok (.iconst (-1), 1) := by decide +kernel
theorem dX11_begin_51 : decode cX11_begin 51 = .ok (.iastore, 1) := by decide +kernel
theorem dX11_begin_52 : decode cX11_begin 52 = .ok (.iinc 3 1, 3) := by decide +kernel
theorem dX11_begin_55 : decode cX11_begin 55 = .ok (.goto (-23), 3) := by decide +kernel
theorem dX11_begin_58 : decode cX11_begin 58 = .ok (.iconst 0, 1) := by decide +kernel
theorem dX11_begin_59 : decode cX11_begin 59 = .ok (.istore_n 3, 1) := by decide +kernel
theorem dX11_begin_60 : decode cX11_begin 60 = .ok (.iload_n 3, 1) := by decide +kernel
theorem dX11_begin_61 : decode cX11_begin 61 = .ok (.sipush 384, 3) := by decide +kernel
theorem dX11_begin_64 : decode cX11_begin 64 = .ok (.if_icmp .ge 58, 3) := by decide +kernel
theorem dX11_begin_67 : decode cX11_begin 67 = .ok (.aload_n 0, 1) := by decide +kernel
theorem dX11_begin_68 : decode cX11_begin 68 = .ok (.getfield 49, 3) := by decide +kernel
theorem dX11_begin_71 : decode cX11_begin 71 = .ok (.iload_n 2, 1) := by decide +kernel
theorem dX11_begin_72 : decode cX11_begin 72 = .ok (.iload_n 3, 1) := by decide +kernel
theorem dX11_begin_73 : decode cX11_begin 73 = .ok (.iadd, 1) := by decide +kernel
theorem dX11_begin_74 : decode cX11_begin 74 = .ok (.aload_n 0, 1) := by decide +kernel
theorem dX11_begin_75 : decode cX11_begin 75 = .ok (.getfield 34, 3) := by decide +kernel
theorem dX11_begin_78 : decode cX11_begin 78 = .ok (.iload_n 1, 1) := by decide +kernel
theorem dX11_begin_79 : decode cX11_begin 79 = .ok (.iaload, 1) := by decide +kernel
theorem dX11_begin_80 : decode cX11_begin 80 = .ok (.iconst 5, 1) := by decide +kernel
theorem dX11_begin_81 : decode cX11_begin 81 = .ok (.if_icmp .ne 7, 3) := by decide +kernel
theorem dX11_begin_84 : decode cX11_begin 84 = .ok (.iconst 0, 1) := by decide +kernel
theorem dX11_begin_85 : decode cX11_begin 85 = .ok (.goto 30, 3) := by decide +kernel
theorem dX11_begin_88 : decode cX11_begin 88 = .ok (.aload_n 0, 1) := by decide +kernel
theorem dX11_begin_89 : decode cX11_begin 89 = .ok (.getfield 34, 3) := by decide +kernel
theorem dX11_begin_92 : decode cX11_begin 92 = .ok (.iload_n 1, 1) := by decide +kernel
theorem dX11_begin_93 : decode cX11_begin 93 = .ok (.iaload, 1) := by decide +kernel
theorem dX11_begin_94 : decode cX11_begin 94 = .ok (.bipush 6, 2) := by decide +kernel
theorem dX11_begin_96 : decode cX11_begin 96 = .ok (.if_icmp .ne 18, 3) := by decide +kernel
theorem dX11_begin_99 : decode cX11_begin 99 = .ok (.iload_n 3, 1) := by decide +kernel
theorem dX11_begin_100 : decode cX11_begin 100 = .ok (.iconst 3, 1) := by decide +kernel
theorem dX11_begin_101 : decode cX11_begin 101 = .ok (.irem, 1) := by decide +kernel
theorem dX11_begin_102 : decode cX11_begin 102 = .ok (.iconst 1, 1) := by decide +kernel
theorem dX11_begin_103 : decode cX11_begin 103 = .ok (.if_icmp .ne 7, 3) := by decide +kernel
theorem dX11_begin_106 : decode cX11_begin 106 = .ok (.iconst (-1), 1) := by decide +kernel
theorem dX11_begin_107 : decode cX11_begin 107 = .ok (.goto 8, 3) := by decide +kernel
theorem dX11_begin_110 : decode cX11_begin 110 = .ok (.iconst 0, 1) := by decide +kernel
theorem dX11_begin_111 : decode cX11_begin 111 = .ok (.goto 4, 3) := by decide +kernel
theorem dX11_begin_114 : decode cX11_begin 114 = .ok (.iconst 1, 1) := by decide +kernel
theorem dX11_begin_115 : decode cX11_begin 115 = .ok (.iastore, 1) := by decide +kernel
theorem dX11_begin_116 : decode cX11_begin 116 = .ok (.iinc 3 1, 3) := by decide +kernel
theorem dX11_begin_119 : decode cX11_begin 119 = .ok (.goto (-59), 3) := by decide +kernel
theorem dX11_begin_122 : decode cX11_begin 122 = .ok (.return_, 1) := by decide +kernel
theorem dX11_guesser_0 : decode cX11_guesser 0 = .ok (.iload_n 1, 1) := by decide +kernel
theorem dX11_guesser_1 : decode cX11_guesser 1 = .ok (.bipush 7, 2) := by decide +kernel
theorem dX11_guesser_3 : decode cX11_guesser 3 = .ok (.if_icmp .ne 21, 3) := by decide +kernel
theorem dX11_guesser_6 : decode cX11_guesser 6 = .ok (.aload_n 0, 1) := by decide +kernel
theorem dX11_guesser_7 : decode cX11_guesser 7 = .ok (.iload_n 2, 1) := by decide +kernel
theorem dX11_guesser_8 : decode cX11_guesser 8 = .ok (.invokevirtual 107, 3) := by decide +kernel
theorem dX11_guesser_11 : decode cX11_guesser 11 = .ok (.ifCond .eq 11, 3) := by decide +kernel
theorem dX11_guesser_14 : decode cX11_guesser 14 = .ok (.aload_n 0, 1) := by decide +kernel
theorem dX11_guesser_15 : decode cX11_guesser 15 = .ok (.iload_n 3, 1) := by decide +kernel
theorem dX11_guesser_16 : decode cX11_guesser 16 = .ok (.invokevirtual 107, 3) := by decide +kernel
theorem dX11_guesser_19 : decode cX11_guesser 19 = .ok (.ifCond .ne 5, 3) := by decide +kernel
theorem dX11_guesser_22 : decode cX11_guesser 22 = .ok (.iconst (-1), 1) := by decide +kernel
theorem dX11_guesser_23 : decode cX11_guesser 23 = .ok (.ireturn, 1) := by decide +kernel
theorem dX11_guesser_24 : decode cX11_guesser 24 = .ok (.iload_n 1, 1) := by decide +kernel
theorem dX11_guesser_25 : decode cX11_guesser 25 = .ok (.iload_n 2, 1) := by decide +kernel
theorem dX11_guesser_26 : decode cX11_guesser 26 = .ok (.iload_n 3, 1) := by decide +kernel
theorem dX11_guesser_27 : decode cX11_guesser 27 = .ok (.iload 4, 2) := by decide +kernel
theorem dX11_guesser_29 : decode cX11_guesser 29 = .ok (.invokestatic 110, 3) := by decide +kernel
theorem dX11_guesser_32 : decode cX11_guesser 32 = .ok (.ifCond .ne 6, 3) := by decide +kernel
theorem dX11_guesser_35 : decode cX11_guesser 35 = .ok (.bipush (-2), 2) := by decide +kernel
theorem dX11_guesser_37 : decode cX11_guesser 37 = .ok (.ireturn, 1) := by decide +kernel
theorem dX11_guesser_38 : decode cX11_guesser 38 = .ok (.aload_n 0, 1) := by decide +kernel
theorem dX11_guesser_39 : decode cX11_guesser 39 = .ok (.getfield 94, 3) := by decide +kernel
theorem dX11_guesser_42 : decode cX11_guesser 42 = .ok (.bipush 8, 2) := by decide +kernel
theorem dX11_guesser_44 : decode cX11_guesser 44 = .ok (.if_icmp .ne 6, 3) := by decide +kernel
theorem dX11_guesser_47 : decode cX11_guesser 47 = .ok (.bipush (-4), 2) := by decide +kernel
theorem dX11_guesser_49 : decode cX11_guesser 49 = .ok (.ireturn, 1) := by decide +kernel
theorem dX11_guesser_50 : decode cX11_guesser 50 = .ok (.aload_n 0, 1) := by decide +kernel
theorem dX11_guesser_51 : decode cX11_guesser 51 = .ok (.getfield 34, 3) := by decide +kernel
theorem dX11_guesser_54 : decode cX11_guesser 54 = .ok (.aload_n 0, 1) := by decide +kernel
theorem dX11_guesser_55 : decode cX11_guesser 55 = .ok (.getfield 94, 3) := by decide +kernel
theorem dX11_guesser_58 : decode cX11_guesser 58 = .ok (.iload_n 1, 1) := by decide +kernel
theorem dX11_guesser_59 : decode cX11_guesser 59 = .ok (.iastore, 1) := by decide +kernel
theorem dX11_guesser_60 : decode cX11_guesser 60 = .ok (.aload_n 0, 1) := by decide +kernel
theorem dX11_guesser_61 : decode cX11_guesser 61 = .ok (.getfield 37, 3) := by decide +kernel
theorem dX11_guesser_64 : decode cX11_guesser 64 = .ok (.aload_n 0, 1) := by decide +kernel
theorem dX11_guesser_65 : decode cX11_guesser 65 = .ok (.getfield 94, 3) := by decide +kernel
theorem dX11_guesser_68 : decode cX11_guesser 68 = .ok (.iload_n 2, 1) := by decide +kernel
theorem dX11_guesser_69 : decode cX11_guesser 69 = .ok (.iastore, 1) := by decide +kernel
theorem dX11_guesser_70 : decode cX11_guesser 70 = .ok (.aload_n 0, 1) := by decide +kernel
theorem dX11_guesser_71 : decode cX11_guesser 71 = .ok (.getfield 40, 3) := by decide +kernel
theorem dX11_guesser_74 : decode cX11_guesser 74 = .ok (.aload_n 0, 1) := by decide +kernel
theorem dX11_guesser_75 : decode cX11_guesser 75 = .ok (.getfield 94, 3) := by decide +kernel
theorem dX11_guesser_78 : decode cX11_guesser 78 = .ok (.iload_n 3, 1) := by decide +kernel
theorem dX11_guesser_79 : decode cX11_guesser 79 = .ok (.iastore, 1) := by decide +kernel
theorem dX11_guesser_80 : decode cX11_guesser 80 = .ok (.aload_n 0, 1) := by decide +kernel
theorem dX11_guesser_81 : decode cX11_guesser 81 = .ok (.getfield 43, 3) := by decide +kernel
theorem dX11_guesser_84 : decode cX11_guesser 84 = .ok (.aload_n 0, 1) := by decide +kernel
theorem dX11_guesser_85 : decode cX11_guesser 85 = .ok (.getfield 94, 3) := by decide +kernel
theorem dX11_guesser_88 : decode cX11_guesser 88 = .ok (.iload 4, 2) := by decide +kernel
theorem dX11_guesser_90 : decode cX11_guesser 90 = .ok (.iastore, 1) := by decide +kernel
theorem dX11_guesser_91 : decode cX11_guesser 91 = .ok (.iconst 0, 1) := by decide +kernel
theorem dX11_guesser_92 : decode cX11_guesser 92 = .ok (.istore 5, 2) := by decide +kernel
theorem dX11_guesser_94 : decode cX11_guesser 94 = .ok (.iload 5, 2) := by decide +kernel
theorem dX11_guesser_96 : decode cX11_guesser 96 = .ok (.bipush 64, 2) := by decide +kernel
theorem dX11_guesser_98 : decode cX11_guesser 98 = .ok (.if_icmp .ge 25, 3) := by decide +kernel
theorem dX11_guesser_101 : decode cX11_guesser 101 = .ok (.aload_n 0, 1) := by decide +kernel
theorem dX11_guesser_102 : decode cX11_guesser 102 = .ok (.getfield 46, 3) := by decide +kernel
theorem dX11_guesser_105 : decode cX11_guesser 105 = .ok (.bipush 64, 2) := by decide +kernel
theorem dX11_guesser_107 : decode cX11_guesser 107 = .ok (.aload_n 0, 1) := by decide +kernel
theorem dX11_guesser_108 : decode cX11_guesser 108 = .ok (.getfield 94, 3) := by decide +kernel
theorem dX11_guesser_111 : decode cX11_guesser 111 = .ok (.imul, 1) := by decide +kernel
theorem dX11_guesser_112 : decode cX11_guesser 112 = .ok (.iload 5, 2) := by decide +kernel
theorem dX11_guesser_114 : decode cX11_guesser 114 = .ok (.iadd, 1) := by decide +kernel
theorem dX11_guesser_115 : decode cX11_guesser 115 = .ok (.iconst (-1), 1) := by decide +kernel
theorem dX11_guesser_116 : decode cX11_guesser 116 = .ok (.iastore, 1) := by decide +kernel
theorem dX11_guesser_117 : decode cX11_guesser 117 = .ok (.iinc 5 1, 3) := by decide +kernel
theorem dX11_guesser_120 : decode cX11_guesser 120 = .ok (.goto (-26), 3) := by decide +kernel
theorem dX11_guesser_123 : decode cX11_guesser 123 = .ok (.aload_n 0, 1) := by decide +kernel
theorem dX11_guesser_124 : decode cX11_guesser 124 = .ok (.aload_n 0, 1) := by decide +kernel
theorem dX11_guesser_125 : decode cX11_guesser 125 = .ok (.getfield 94, 3) := by decide +kernel
theorem dX11_guesser_128 : decode cX11_guesser 128 = .ok (.invokevirtual 114, 3) := by decide +kernel
theorem dX11_guesser_131 : decode cX11_guesser 131 = .ok (.aload_n 0, 1) := by decide +kernel
theorem dX11_guesser_132 : decode cX11_guesser 132 = .ok (.dup, 1) := by decide +kernel
theorem dX11_guesser_133 : decode cX11_guesser 133 = .ok (.getfield 94, 3) := by decide +kernel
theorem dX11_guesser_136 : decode cX11_guesser 136 = .ok (.iconst 1, 1) := by decide +kernel
theorem dX11_guesser_137 : decode cX11_guesser 137 = .ok (.iadd, 1) := by decide +kernel
theorem dX11_guesser_138 : decode cX11_guesser 138 = .ok (.putfield 94, 3) := by decide +kernel
theorem dX11_guesser_141 : decode cX11_guesser 141 = .ok (.aload_n 0, 1) := by decide +kernel
theorem dX11_guesser_142 : decode cX11_guesser 142 = .ok (.getfield 94, 3) := by decide +kernel
theorem dX11_guesser_145 : decode cX11_guesser 145 = .ok (.iconst 1, 1) := by decide +kernel
theorem dX11_guesser_146 : decode cX11_guesser 146 = .ok (.isub, 1) := by decide +kernel
theorem dX11_guesser_147 : decode cX11_guesser 147 = .ok (.ireturn, 1) := by decide +kernel
theorem dX11_low_0 : decode cX11_low 0 = .ok (.iload_n 0, 1) := by decide +kernel
theorem dX11_low_1 : decode cX11_low 1 = .ok (.iconst 1, 1) := by decide +kernel
theorem dX11_low_2 : decode cX11_low 2 = .ok (.iload_n 1, 1) := by decide +kernel
theorem dX11_low_3 : decode cX11_low 3 = .ok (.ishl, 1) := by decide +kernel
theorem dX11_low_4 : decode cX11_low 4 = .ok (.iconst 1, 1) := by decide +kernel
theorem dX11_low_5 : decode cX11_low 5 = .ok (.isub, 1) := by decide +kernel
theorem dX11_low_6 : decode cX11_low 6 = .ok (.iand, 1) := by decide +kernel
theorem dX11_low_7 : decode cX11_low 7 = .ok (.ireturn, 1) := by decide +kernel
theorem dX11_counter_0 : decode cX11_counter 0 = .ok (.sipush 812, 3) := by decide +kernel
theorem dX11_counter_3 : decode cX11_counter 3 = .ok (.iload_n 1, 1) := by decide +kernel
theorem dX11_counter_4 : decode cX11_counter 4 = .ok (.imul, 1) := by decide +kernel
theorem dX11_counter_5 : decode cX11_counter 5 = .ok (.istore 4, 2) := by decide +kernel
theorem dX11_counter_7 : decode cX11_counter 7 = .ok (.aload_n 0, 1) := by decide +kernel
theorem dX11_counter_8 : decode cX11_counter 8 = .ok (.getfield 49, 3) := by decide +kernel
theorem dX11_counter_11 : decode cX11_counter 11 = .ok (.iload 4, 2) := by decide +kernel
theorem dX11_counter_13 : decode cX11_counter 13 = .ok (.sipush 808, 3) := by decide +kernel
theorem dX11_counter_16 : decode cX11_counter 16 = .ok (.iadd, 1) := by decide +kernel
theorem dX11_counter_17 : decode cX11_counter 17 = .ok (.iaload, 1) := by decide +kernel
theorem dX11_counter_18 : decode cX11_counter 18 = .ok (.istore 5, 2) := by decide +kernel
theorem dX11_counter_20 : decode cX11_counter 20 = .ok (.aload_n 0, 1) := by decide +kernel
theorem dX11_counter_21 : decode cX11_counter 21 = .ok (.getfield 34, 3) := by decide +kernel
theorem dX11_counter_24 : decode cX11_counter 24 = .ok (.iload_n 1, 1) := by decide +kernel
theorem dX11_counter_25 : decode cX11_counter 25 = .ok (.iaload, 1) := by decide +kernel
theorem dX11_counter_26 : decode cX11_counter 26 = .ok (.tableswitch 153 1 5 #[34, 45, 68, 109, 142], 34) := by decide +kernel
theorem dX11_counter_60 : decode cX11_counter 60 = .ok (.iload_n 2, 1) := by decide +kernel
theorem dX11_counter_61 : decode cX11_counter 61 = .ok (.aload_n 0, 1) := by decide +kernel
theorem dX11_counter_62 : decode cX11_counter 62 = .ok (.getfield 37, 3) := by decide +kernel
theorem dX11_counter_65 : decode cX11_counter 65 = .ok (.iload_n 1, 1) := by decide +kernel
theorem dX11_counter_66 : decode cX11_counter 66 = .ok (.iaload, 1) := by decide +kernel
theorem dX11_counter_67 : decode cX11_counter 67 = .ok (.invokestatic 118, 3) := by decide +kernel
theorem dX11_counter_70 : decode cX11_counter 70 = .ok (.ireturn, 1) := by decide +kernel
theorem dX11_counter_71 : decode cX11_counter 71 = .ok (.iload_n 2, 1) := by decide +kernel
theorem dX11_counter_72 : decode cX11_counter 72 = .ok (.iload 5, 2) := by decide +kernel
theorem dX11_counter_74 : decode cX11_counter 74 = .ok (.aload_n 0, 1) := by decide +kernel
theorem dX11_counter_75 : decode cX11_counter 75 = .ok (.getfield 40, 3) := by decide +kernel
theorem dX11_counter_78 : decode cX11_counter 78 = .ok (.iload_n 1, 1) := by decide +kernel
theorem dX11_counter_79 : decode cX11_counter 79 = .ok (.iaload, 1) := by decide +kernel
theorem dX11_counter_80 : decode cX11_counter 80 = .ok (.invokestatic 118, 3) := by decide +kernel
theorem dX11_counter_83 : decode cX11_counter 83 = .ok (.ixor, 1) := by decide +kernel
theorem dX11_counter_84 : decode cX11_counter 84 = .ok (.aload_n 0, 1) := by decide +kernel
theorem dX11_counter_85 : decode cX11_counter 85 = .ok (.getfield 37, 3) := by decide +kernel
theorem dX11_counter_88 : decode cX11_counter 88 = .ok (.iload_n 1, 1) := by decide +kernel
theorem dX11_counter_89 : decode cX11_counter 89 = .ok (.iaload, 1) := by decide +kernel
theorem dX11_counter_90 : decode cX11_counter 90 = .ok (.invokestatic 118, 3) := by decide +kernel
theorem dX11_counter_93 : decode cX11_counter 93 = .ok (.ireturn, 1) := by decide +kernel
theorem dX11_counter_94 : decode cX11_counter 94 = .ok (.aload_n 0, 1) := by decide +kernel
theorem dX11_counter_95 : decode cX11_counter 95 = .ok (.getfield 49, 3) := by decide +kernel
theorem dX11_counter_98 : decode cX11_counter 98 = .ok (.iload 4, 2) := by decide +kernel
theorem dX11_counter_100 : decode cX11_counter 100 = .ok (.sipush 384, 3) := by decide +kernel
theorem dX11_counter_103 : decode cX11_counter 103 = .ok (.iadd, 1) := by decide +kernel
theorem dX11_counter_104 : decode cX11_counter 104 = .ok (.iload_n 2, 1) := by decide +kernel
theorem dX11_counter_105 : decode cX11_counter 105 = .ok (.iadd, 1) := by decide +kernel
theorem dX11_counter_106 : decode cX11_counter 106 = .ok (.iaload, 1) := by decide +kernel
theorem dX11_counter_107 : decode cX11_counter 107 = .ok (.aload_n 0, 1) := by decide +kernel
theorem dX11_counter_108 : decode cX11_counter 108 = .ok (.getfield 40, 3) := by decide +kernel
theorem dX11_counter_111 : decode cX11_counter 111 = .ok (.iload_n 1, 1) := by decide +kernel
theorem dX11_counter_112 : decode cX11_counter 112 = .ok (.iaload, 1) := by decide +kernel
theorem dX11_counter_113 : decode cX11_counter 113 = .ok (.invokestatic 118, 3) := by decide +kernel
theorem dX11_counter_116 : decode cX11_counter 116 = .ok (.aload_n 0, 1) := by decide +kernel
theorem dX11_counter_117 : decode cX11_counter 117 = .ok (.getfield 43, 3) := by decide +kernel
theorem dX11_counter_120 : decode cX11_counter 120 = .ok (.iload_n 1, 1) := by decide +kernel
theorem dX11_counter_121 : decode cX11_counter 121 = .ok (.iaload, 1) := by decide +kernel
theorem dX11_counter_122 : decode cX11_counter 122 = .ok (.iload_n 2, 1) := by decide +kernel
theorem dX11_counter_123 : decode cX11_counter 123 = .ok (.imul, 1) := by decide +kernel
theorem dX11_counter_124 : decode cX11_counter 124 = .ok (.ixor, 1) := by decide +kernel
theorem dX11_counter_125 : decode cX11_counter 125 = .ok (.aload_n 0, 1) := by decide +kernel
theorem dX11_counter_126 : decode cX11_counter 126 = .ok (.getfield 37, 3) := by decide +kernel
theorem dX11_counter_129 : decode cX11_counter 129 = .ok (.iload_n 1, 1) := by decide +kernel
theorem dX11_counter_130 : decode cX11_counter 130 = .ok (.iaload, 1) := by decide +kernel
theorem dX11_counter_131 : decode cX11_counter 131 = .ok (.invokestatic 118, 3) := by decide +kernel
theorem dX11_counter_134 : decode cX11_counter 134 = .ok (.ireturn, 1) := by decide +kernel
theorem dX11_counter_135 : decode cX11_counter 135 = .ok (.sipush 128, 3) := by decide +kernel
theorem dX11_counter_138 : decode cX11_counter 138 = .ok (.iload_n 3, 1) := by decide +kernel
theorem dX11_counter_139 : decode cX11_counter 139 = .ok (.imul, 1) := by decide +kernel
theorem dX11_counter_140 : decode cX11_counter 140 = .ok (.iconst 5, 1) := by decide +kernel
theorem dX11_counter_141 : decode cX11_counter 141 = .ok (.iload_n 2, 1) := by decide +kernel
theorem dX11_counter_142 : decode cX11_counter 142 = .ok (.imul, 1) := by decide +kernel
theorem dX11_counter_143 : decode cX11_counter 143 = .ok (.iload 5, 2) := by decide +kernel
theorem dX11_counter_145 : decode cX11_counter 145 = .ok (.iload_n 3, 1) := by decide +kernel
theorem dX11_counter_146 : decode cX11_counter 146 = .ok (.aload_n 0, 1) := by decide +kernel
theorem dX11_counter_147 : decode cX11_counter 147 = .ok (.getfield 40, 3) := by decide +kernel
theorem dX11_counter_150 : decode cX11_counter 150 = .ok (.iload_n 1, 1) := by decide +kernel
theorem dX11_counter_151 : decode cX11_counter 151 = .ok (.iaload, 1) := by decide +kernel
theorem dX11_counter_152 : decode cX11_counter 152 = .ok (.imul, 1) := by decide +kernel
theorem dX11_counter_153 : decode cX11_counter 153 = .ok (.invokestatic 118, 3) := by decide +kernel
theorem dX11_counter_156 : decode cX11_counter 156 = .ok (.ixor, 1) := by decide +kernel
theorem dX11_counter_157 : decode cX11_counter 157 = .ok (.aload_n 0, 1) := by decide +kernel
theorem dX11_counter_158 : decode cX11_counter 158 = .ok (.getfield 37, 3) := by decide +kernel
theorem dX11_counter_161 : decode cX11_counter 161 = .ok (.iload_n 1, 1) := by decide +kernel
theorem dX11_counter_162 : decode cX11_counter 162 = .ok (.iaload, 1) := by decide +kernel
theorem dX11_counter_163 : decode cX11_counter 163 = .ok (.invokestatic 118, 3) := by decide +kernel
theorem dX11_counter_166 : decode cX11_counter 166 = .ok (.iadd, 1) := by decide +kernel
theorem dX11_counter_167 : decode cX11_counter 167 = .ok (.ireturn, 1) := by decide +kernel
theorem dX11_counter_168 : decode cX11_counter 168 = .ok (.iload_n 2, 1) := by decide +kernel
theorem dX11_counter_169 : decode cX11_counter 169 = .ok (.aload_n 0, 1) := by decide +kernel
theorem dX11_counter_170 : decode cX11_counter 170 = .ok (.getfield 37, 3) := by decide +kernel
theorem dX11_counter_173 : decode cX11_counter 173 = .ok (.iload_n 1, 1) := by decide +kernel
theorem dX11_counter_174 : decode cX11_counter 174 = .ok (.iaload, 1) := by decide +kernel
theorem dX11_counter_175 : decode cX11_counter 175 = .ok (.invokestatic 118, 3) := by decide +kernel
theorem dX11_counter_178 : decode cX11_counter 178 = .ok (.ireturn, 1) := by decide +kernel
theorem dX11_counter_179 : decode cX11_counter 179 = .ok (.iload_n 2, 1) := by decide +kernel
theorem dX11_counter_180 : decode cX11_counter 180 = .ok (.aload_n 0, 1) := by decide +kernel
theorem dX11_counter_181 : decode cX11_counter 181 = .ok (.getfield 43, 3) := by decide +kernel
theorem dX11_counter_184 : decode cX11_counter 184 = .ok (.iload_n 1, 1) := by decide +kernel
theorem dX11_counter_185 : decode cX11_counter 185 = .ok (.iaload, 1) := by decide +kernel
theorem dX11_counter_186 : decode cX11_counter 186 = .ok (.invokestatic 118, 3) := by decide +kernel
theorem dX11_counter_189 : decode cX11_counter 189 = .ok (.ireturn, 1) := by decide +kernel
theorem dX11_sum_0 : decode cX11_sum 0 = .ok (.sipush 812, 3) := by decide +kernel
theorem dX11_sum_3 : decode cX11_sum 3 = .ok (.iload_n 1, 1) := by decide +kernel
theorem dX11_sum_4 : decode cX11_sum 4 = .ok (.imul, 1) := by decide +kernel
theorem dX11_sum_5 : decode cX11_sum 5 = .ok (.bipush 9, 2) := by decide +kernel
theorem dX11_sum_7 : decode cX11_sum 7 = .ok (.aload_n 0, 1) := by decide +kernel
theorem dX11_sum_8 : decode cX11_sum 8 = .ok (.iload_n 1, 1) := by decide +kernel
theorem dX11_sum_9 : decode cX11_sum 9 = .ok (.iload_n 2, 1) := by decide +kernel
theorem dX11_sum_10 : decode cX11_sum 10 = .ok (.iconst 0, 1) := by decide +kernel
theorem dX11_sum_11 : decode cX11_sum 11 = .ok (.invokevirtual 122, 3) := by decide +kernel
theorem dX11_sum_14 : decode cX11_sum 14 = .ok (.imul, 1) := by decide +kernel
theorem dX11_sum_15 : decode cX11_sum 15 = .ok (.iadd, 1) := by decide +kernel
theorem dX11_sum_16 : decode cX11_sum 16 = .ok (.istore_n 3, 1) := by decide +kernel
theorem dX11_sum_17 : decode cX11_sum 17 = .ok (.aload_n 0, 1) := by decide +kernel
theorem dX11_sum_18 : decode cX11_sum 18 = .ok (.getfield 49, 3) := by decide +kernel
theorem dX11_sum_21 : decode cX11_sum 21 = .ok (.iload_n 3, 1) := by decide +kernel
theorem dX11_sum_22 : decode cX11_sum 22 = .ok (.iaload, 1) := by decide +kernel
theorem dX11_sum_23 : decode cX11_sum 23 = .ok (.istore 4, 2) := by decide +kernel
theorem dX11_sum_25 : decode cX11_sum 25 = .ok (.iconst 0, 1) := by decide +kernel
theorem dX11_sum_26 : decode cX11_sum 26 = .ok (.istore 5, 2) := by decide +kernel
theorem dX11_sum_28 : decode cX11_sum 28 = .ok (.iload 5, 2) := by decide +kernel
theorem dX11_sum_30 : decode cX11_sum 30 = .ok (.aload_n 0, 1) := by decide +kernel
theorem dX11_sum_31 : decode cX11_sum 31 = .ok (.getfield 40, 3) := by decide +kernel
theorem dX11_sum_34 : decode cX11_sum 34 = .ok (.iload_n 1, 1) := by decide +kernel
theorem dX11_sum_35 : decode cX11_sum 35 = .ok (.iaload, 1) := by decide +kernel
theorem dX11_sum_36 : decode cX11_sum 36 = .ok (.if_icmp .ge 75, 3) := by decide +kernel
theorem dX11_sum_39 : decode cX11_sum 39 = .ok (.aload_n 0, 1) := by decide +kernel
theorem dX11_sum_40 : decode cX11_sum 40 = .ok (.getfield 49, 3) := by decide +kernel
theorem dX11_sum_43 : decode cX11_sum 43 = .ok (.sipush 812, 3) := by decide +kernel
theorem dX11_sum_46 : decode cX11_sum 46 = .ok (.iload_n 1, 1) := by decide +kernel
theorem dX11_sum_47 : decode cX11_sum 47 = .ok (.imul, 1) := by decide +kernel
theorem dX11_sum_48 : decode cX11_sum 48 = .ok (.sipush 808, 3) := by decide +kernel
theorem dX11_sum_51 : decode cX11_sum 51 = .ok (.iadd, 1) := by decide +kernel
theorem dX11_sum_52 : decode cX11_sum 52 = .ok (.iaload, 1) := by decide +kernel
theorem dX11_sum_53 : decode cX11_sum 53 = .ok (.iload 5, 2) := by decide +kernel
theorem dX11_sum_55 : decode cX11_sum 55 = .ok (.ishr, 1) := by decide +kernel
theorem dX11_sum_56 : decode cX11_sum 56 = .ok (.iconst 1, 1) := by decide +kernel
theorem dX11_sum_57 : decode cX11_sum 57 = .ok (.iand, 1) := by decide +kernel
theorem dX11_sum_58 : decode cX11_sum 58 = .ok (.iconst 1, 1) := by decide +kernel
theorem dX11_sum_59 : decode cX11_sum 59 = .ok (.if_icmp .ne 7, 3) := by decide +kernel
theorem dX11_sum_62 : decode cX11_sum 62 = .ok (.iconst 1, 1) := by decide +kernel
theorem dX11_sum_63 : decode cX11_sum 63 = .ok (.goto 4, 3) := by decide +kernel
theorem dX11_sum_66 : decode cX11_sum 66 = .ok (.iconst 0, 1) := by decide +kernel
theorem dX11_sum_67 : decode cX11_sum 67 = .ok (.istore 6, 2) := by decide +kernel
theorem dX11_sum_69 : decode cX11_sum 69 = .ok (.iload 4, 2) := by decide +kernel
theorem dX11_sum_71 : decode cX11_sum 71 = .ok (.iload 6, 2) := by decide +kernel
theorem dX11_sum_73 : decode cX11_sum 73 = .ok (.ifCond .eq 17, 3) := by decide +kernel
theorem dX11_sum_76 : decode cX11_sum 76 = .ok (.aload_n 0, 1) := by decide +kernel
theorem dX11_sum_77 : decode cX11_sum 77 = .ok (.getfield 49, 3) := by decide +kernel
theorem dX11_sum_80 : decode cX11_sum 80 = .ok (.iload_n 3, 1) := by decide +kernel
theorem dX11_sum_81 : decode cX11_sum 81 = .ok (.iconst 1, 1) := by decide +kernel
theorem dX11_sum_82 : decode cX11_sum 82 = .ok (.iadd, 1) := by decide +kernel
theorem dX11_sum_83 : decode cX11_sum 83 = .ok (.iload 5, 2) := by decide +kernel
theorem dX11_sum_85 : decode cX11_sum 85 = .ok (.iadd, 1) := by decide +kernel
theorem dX11_sum_86 : decode cX11_sum 86 = .ok (.iaload, 1) := by decide +kernel
theorem dX11_sum_87 : decode cX11_sum 87 = .ok (.goto 15, 3) := by decide +kernel
theorem dX11_sum_90 : decode cX11_sum 90 = .ok (.aload_n 0, 1) := by decide +kernel
theorem dX11_sum_91 : decode cX11_sum 91 = .ok (.getfield 49, 3) := by decide +kernel
theorem dX11_sum_94 : decode cX11_sum 94 = .ok (.iload_n 3, 1) := by decide +kernel
theorem dX11_sum_95 : decode cX11_sum 95 = .ok (.iconst 1, 1) := by decide +kernel
theorem dX11_sum_96 : decode cX11_sum 96 = .ok (.iadd, 1) := by decide +kernel
theorem dX11_sum_97 : decode cX11_sum 97 = .ok (.iload 5, 2) := by decide +kernel
theorem dX11_sum_99 : decode cX11_sum 99 = .ok (.iadd, 1) := by decide +kernel
theorem dX11_sum_100 : decode cX11_sum 100 = .ok (.iaload, 1) := by decide +kernel
theorem dX11_sum_101 : decode cX11_sum 101 = .ok (.ineg, 1) := by decide +kernel
theorem dX11_sum_102 : decode cX11_sum 102 = .ok (.iadd, 1) := by decide +kernel
theorem dX11_sum_103 : decode cX11_sum 103 = .ok (.istore 4, 2) := by decide +kernel
theorem dX11_sum_105 : decode cX11_sum 105 = .ok (.iinc 5 1, 3) := by decide +kernel
theorem dX11_sum_108 : decode cX11_sum 108 = .ok (.goto (-80), 3) := by decide +kernel
theorem dX11_sum_111 : decode cX11_sum 111 = .ok (.iload 4, 2) := by decide +kernel
theorem dX11_sum_113 : decode cX11_sum 113 = .ok (.ireturn, 1) := by decide +kernel
theorem dX11_own_0 : decode cX11_own 0 = .ok (.sipush 812, 3) := by decide +kernel
theorem dX11_own_3 : decode cX11_own 3 = .ok (.iload_n 1, 1) := by decide +kernel
theorem dX11_own_4 : decode cX11_own 4 = .ok (.imul, 1) := by decide +kernel
theorem dX11_own_5 : decode cX11_own 5 = .ok (.istore 5, 2) := by decide +kernel
theorem dX11_own_7 : decode cX11_own 7 = .ok (.aload_n 0, 1) := by decide +kernel
theorem dX11_own_8 : decode cX11_own 8 = .ok (.getfield 34, 3) := by decide +kernel
theorem dX11_own_11 : decode cX11_own 11 = .ok (.iload_n 1, 1) := by decide +kernel
theorem dX11_own_12 : decode cX11_own 12 = .ok (.iaload, 1) := by decide +kernel
theorem dX11_own_13 : decode cX11_own 13 = .ok (.tableswitch 250 0 7 #[47, 250, 250, 250, 82, 142, 157, 224], 47) := by decide +kernel
theorem dX11_own_60 : decode cX11_own 60 = .ok (.aload_n 0, 1) := by decide +kernel
theorem dX11_own_61 : decode cX11_own 61 = .ok (.getfield 37, 3) := by decide +kernel
theorem dX11_own_64 : decode cX11_own 64 = .ok (.iload_n 1, 1) := by decide +kernel
theorem dX11_own_65 : decode cX11_own 65 = .ok (.iaload, 1) := by decide +kernel
theorem dX11_own_66 : decode cX11_own 66 = .ok (.iconst 2, 1) := by decide +kernel
theorem dX11_own_67 : decode cX11_own 67 = .ok (.if_icmp .ge 12, 3) := by decide +kernel
theorem dX11_own_70 : decode cX11_own 70 = .ok (.aload_n 0, 1) := by decide +kernel
theorem dX11_own_71 : decode cX11_own 71 = .ok (.getfield 37, 3) := by decide +kernel
theorem dX11_own_74 : decode cX11_own 74 = .ok (.iload_n 1, 1) := by decide +kernel
theorem dX11_own_75 : decode cX11_own 75 = .ok (.iaload, 1) := by decide +kernel
theorem dX11_own_76 : decode cX11_own 76 = .ok (.goto 18, 3) := by decide +kernel
theorem dX11_own_79 : decode cX11_own 79 = .ok (.aload_n 0, 1) := by decide +kernel
theorem dX11_own_80 : decode cX11_own 80 = .ok (.getfield 19, 3) := by decide +kernel
theorem dX11_own_83 : decode cX11_own 83 = .ok (.iload_n 2, 1) := by decide +kernel
theorem dX11_own_84 : decode cX11_own 84 = .ok (.iaload, 1) := by decide +kernel
theorem dX11_own_85 : decode cX11_own 85 = .ok (.iload_n 2, 1) := by decide +kernel
theorem dX11_own_86 : decode cX11_own 86 = .ok (.if_icmp .gt 7, 3) := by decide +kernel
theorem dX11_own_89 : decode cX11_own 89 = .ok (.iconst 1, 1) := by decide +kernel
theorem dX11_own_90 : decode cX11_own 90 = .ok (.goto 4, 3) := by decide +kernel
theorem dX11_own_93 : decode cX11_own 93 = .ok (.iconst 0, 1) := by decide +kernel
theorem dX11_own_94 : decode cX11_own 94 = .ok (.ireturn, 1) := by decide +kernel
theorem dX11_own_95 : decode cX11_own 95 = .ok (.iconst 0, 1) := by decide +kernel
theorem dX11_own_96 : decode cX11_own 96 = .ok (.istore 6, 2) := by decide +kernel
theorem dX11_own_98 : decode cX11_own 98 = .ok (.iconst 0, 1) := by decide +kernel
theorem dX11_own_99 : decode cX11_own 99 = .ok (.istore 7, 2) := by decide +kernel
theorem dX11_own_101 : decode cX11_own 101 = .ok (.iload 7, 2) := by decide +kernel
theorem dX11_own_103 : decode cX11_own 103 = .ok (.iconst 3, 1) := by decide +kernel
theorem dX11_own_104 : decode cX11_own 104 = .ok (.if_icmp .ge 39, 3) := by decide +kernel
theorem dX11_own_107 : decode cX11_own 107 = .ok (.iload 6, 2) := by decide +kernel
theorem dX11_own_109 : decode cX11_own 109 = .ok (.aload_n 0, 1) := by decide +kernel
theorem dX11_own_110 : decode cX11_own 110 = .ok (.getfield 49, 3) := by decide +kernel
theorem dX11_own_113 : decode cX11_own 113 = .ok (.iload 5, 2) := by decide +kernel
theorem dX11_own_115 : decode cX11_own 115 = .ok (.aload_n 0, 1) := by decide +kernel
theorem dX11_own_116 : decode cX11_own 116 = .ok (.iload_n 1, 1) := by decide +kernel
theorem dX11_own_117 : decode cX11_own 117 = .ok (.iload_n 2, 1) := by decide +kernel
theorem dX11_own_118 : decode cX11_own 118 = .ok (.iload 7, 2) := by decide +kernel
theorem dX11_own_120 : decode cX11_own 120 = .ok (.invokevirtual 122, 3) := by decide +kernel
theorem dX11_own_123 : decode cX11_own 123 = .ok (.iadd, 1) := by decide +kernel
theorem dX11_own_124 : decode cX11_own 124 = .ok (.iaload, 1) := by decide +kernel
theorem dX11_own_125 : decode cX11_own 125 = .ok (.iconst 1, 1) := by decide +kernel
theorem dX11_own_126 : decode cX11_own 126 = .ok (.if_icmp .le 7, 3) := by decide +kernel
theorem dX11_own_129 : decode cX11_own 129 = .ok (.iconst 1, 1) := by decide +kernel
theorem dX11_own_130 : decode cX11_own 130 = .ok (.goto 4, 3) := by decide +kernel
theorem dX11_own_133 : decode cX11_own 133 = .ok (.iconst 0, 1) := by decide +kernel
theorem dX11_own_134 : decode cX11_own 134 = .ok (.iadd, 1) := by decide +kernel
theorem dX11_own_135 : decode cX11_own 135 = .ok (.istore 6, 2) := by decide +kernel
theorem dX11_own_137 : decode cX11_own 137 = .ok (.iinc 7 1, 3) := by decide +kernel
theorem dX11_own_140 : decode cX11_own 140 = .ok (.goto (-39), 3) := by decide +kernel
theorem dX11_own_143 : decode cX11_own 143 = .ok (.iload 6, 2) := by decide +kernel
theorem dX11_own_145 : decode cX11_own 145 = .ok (.iconst 1, 1) := by decide +kernel
theorem dX11_own_146 : decode cX11_own 146 = .ok (.if_icmp .le 7, 3) := by decide +kernel
theorem dX11_own_149 : decode cX11_own 149 = .ok (.iconst 1, 1) := by decide +kernel
theorem dX11_own_150 : decode cX11_own 150 = .ok (.goto 4, 3) := by decide +kernel
theorem dX11_own_153 : decode cX11_own 153 = .ok (.iconst 0, 1) := by decide +kernel
theorem dX11_own_154 : decode cX11_own 154 = .ok (.ireturn, 1) := by decide +kernel
theorem dX11_own_155 : decode cX11_own 155 = .ok (.aload_n 0, 1) := by decide +kernel
theorem dX11_own_156 : decode cX11_own 156 = .ok (.iload_n 1, 1) := by decide +kernel
theorem dX11_own_157 : decode cX11_own 157 = .ok (.iload_n 2, 1) := by decide +kernel
theorem dX11_own_158 : decode cX11_own 158 = .ok (.invokevirtual 126, 3) := by decide +kernel
theorem dX11_own_161 : decode cX11_own 161 = .ok (.ifCond .lt 7, 3) := by decide +kernel
theorem dX11_own_164 : decode cX11_own 164 = .ok (.iconst 1, 1) := by decide +kernel
theorem dX11_own_165 : decode cX11_own 165 = .ok (.goto 4, 3) := by decide +kernel
theorem dX11_own_168 : decode cX11_own 168 = .ok (.iconst 0, 1) := by decide +kernel
theorem dX11_own_169 : decode cX11_own 169 = .ok (.ireturn, 1) := by decide +kernel
theorem dX11_own_170 : decode cX11_own 170 = .ok (.aload_n 0, 1) := by decide +kernel
theorem dX11_own_171 : decode cX11_own 171 = .ok (.getfield 49, 3) := by decide +kernel
theorem dX11_own_174 : decode cX11_own 174 = .ok (.iload 5, 2) := by decide +kernel
theorem dX11_own_176 : decode cX11_own 176 = .ok (.iconst 3, 1) := by decide +kernel
theorem dX11_own_177 : decode cX11_own 177 = .ok (.iload_n 2, 1) := by decide +kernel
theorem dX11_own_178 : decode cX11_own 178 = .ok (.imul, 1) := by decide +kernel
theorem dX11_own_179 : decode cX11_own 179 = .ok (.iadd, 1) := by decide +kernel
theorem dX11_own_180 : decode cX11_own 180 = .ok (.iconst 2, 1) := by decide +kernel
theorem dX11_own_181 : decode cX11_own 181 = .ok (.iadd, 1) := by decide +kernel
theorem dX11_own_182 : decode cX11_own 182 = .ok (.iaload, 1) := by decide +kernel
theorem dX11_own_183 : decode cX11_own 183 = .ok (.aload_n 0, 1) := by decide +kernel
theorem dX11_own_184 : decode cX11_own 184 = .ok (.getfield 37, 3) := by decide +kernel
theorem dX11_own_187 : decode cX11_own 187 = .ok (.iload_n 1, 1) := by decide +kernel
theorem dX11_own_188 : decode cX11_own 188 = .ok (.iaload, 1) := by decide +kernel
theorem dX11_own_189 : decode cX11_own 189 = .ok (.if_icmp .lt 34, 3) := by decide +kernel
theorem dX11_own_192 : decode cX11_own 192 = .ok (.aload_n 0, 1) := by decide +kernel
theorem dX11_own_193 : decode cX11_own 193 = .ok (.getfield 49, 3) := by decide +kernel
theorem dX11_own_196 : decode cX11_own 196 = .ok (.iload 5, 2) := by decide +kernel
theorem dX11_own_198 : decode cX11_own 198 = .ok (.iconst 3, 1) := by decide +kernel
theorem dX11_own_199 : decode cX11_own 199 = .ok (.iload_n 2, 1) := by decide +kernel
theorem dX11_own_200 : decode cX11_own 200 = .ok (.imul, 1) := by decide +kernel
theorem dX11_own_201 : decode cX11_own 201 = .ok (.iadd, 1) := by decide +kernel
theorem dX11_own_202 : decode cX11_own 202 = .ok (.iaload, 1) := by decide +kernel
theorem dX11_own_203 : decode cX11_own 203 = .ok (.aload_n 0, 1) := by decide +kernel
theorem dX11_own_204 : decode cX11_own 204 = .ok (.getfield 49, 3) := by decide +kernel
theorem dX11_own_207 : decode cX11_own 207 = .ok (.iload 5, 2) := by decide +kernel
theorem dX11_own_209 : decode cX11_own 209 = .ok (.iconst 3, 1) := by decide +kernel
theorem dX11_own_210 : decode cX11_own 210 = .ok (.iload_n 2, 1) := by decide +kernel
theorem dX11_own_211 : decode cX11_own 211 = .ok (.imul, 1) := by decide +kernel
theorem dX11_own_212 : decode cX11_own 212 = .ok (.iadd, 1) := by decide +kernel
theorem dX11_own_213 : decode cX11_own 213 = .ok (.iconst 1, 1) := by decide +kernel
theorem dX11_own_214 : decode cX11_own 214 = .ok (.iadd, 1) := by decide +kernel
theorem dX11_own_215 : decode cX11_own 215 = .ok (.iaload, 1) := by decide +kernel
theorem dX11_own_216 : decode cX11_own 216 = .ok (.if_icmp .ne 7, 3) := by decide +kernel
theorem dX11_own_219 : decode cX11_own 219 = .ok (.iconst 1, 1) := by decide +kernel
theorem dX11_own_220 : decode cX11_own 220 = .ok (.goto 4, 3) := by decide +kernel
theorem dX11_own_223 : decode cX11_own 223 = .ok (.iconst 0, 1) := by decide +kernel
theorem dX11_own_224 : decode cX11_own 224 = .ok (.istore 7, 2) := by decide +kernel
theorem dX11_own_226 : decode cX11_own 226 = .ok (.iload 7, 2) := by decide +kernel
theorem dX11_own_228 : decode cX11_own 228 = .ok (.ifCond .eq 7, 3) := by decide +kernel
theorem dX11_own_231 : decode cX11_own 231 = .ok (.iconst 0, 1) := by decide +kernel
theorem dX11_own_232 : decode cX11_own 232 = .ok (.goto 4, 3) := by decide +kernel
theorem dX11_own_235 : decode cX11_own 235 = .ok (.iconst 1, 1) := by decide +kernel
theorem dX11_own_236 : decode cX11_own 236 = .ok (.ireturn, 1) := by decide +kernel
theorem dX11_own_237 : decode cX11_own 237 = .ok (.aload_n 0, 1) := by decide +kernel
theorem dX11_own_238 : decode cX11_own 238 = .ok (.getfield 49, 3) := by decide +kernel
theorem dX11_own_241 : decode cX11_own 241 = .ok (.iload 5, 2) := by decide +kernel
theorem dX11_own_243 : decode cX11_own 243 = .ok (.aload_n 0, 1) := by decide +kernel
theorem dX11_own_244 : decode cX11_own 244 = .ok (.iload_n 1, 1) := by decide +kernel
theorem dX11_own_245 : decode cX11_own 245 = .ok (.iload_n 2, 1) := by decide +kernel
theorem dX11_own_246 : decode cX11_own 246 = .ok (.iconst 0, 1) := by decide +kernel
theorem dX11_own_247 : decode cX11_own 247 = .ok (.invokevirtual 122, 3) := by decide +kernel
theorem dX11_own_250 : decode cX11_own 250 = .ok (.iadd, 1) := by decide +kernel
theorem dX11_own_251 : decode cX11_own 251 = .ok (.iaload, 1) := by decide +kernel
theorem dX11_own_252 : decode cX11_own 252 = .ok (.iconst 1, 1) := by decide +kernel
theorem dX11_own_253 : decode cX11_own 253 = .ok (.if_icmp .le 8, 3) := by decide +kernel
theorem dX11_own_256 : decode cX11_own 256 = .ok (.iload 4, 2) := by decide +kernel
theorem dX11_own_258 : decode cX11_own 258 = .ok (.goto 4, 3) := by decide +kernel
theorem dX11_own_261 : decode cX11_own 261 = .ok (.iload_n 3, 1) := by decide +kernel
theorem dX11_own_262 : decode cX11_own 262 = .ok (.ireturn, 1) := by decide +kernel
theorem dX11_own_263 : decode cX11_own 263 = .ok (.aload_n 0, 1) := by decide +kernel
theorem dX11_own_264 : decode cX11_own 264 = .ok (.getfield 49, 3) := by decide +kernel
theorem dX11_own_267 : decode cX11_own 267 = .ok (.iload 5, 2) := by decide +kernel
theorem dX11_own_269 : decode cX11_own 269 = .ok (.aload_n 0, 1) := by decide +kernel
theorem dX11_own_270 : decode cX11_own 270 = .ok (.iload_n 1, 1) := by decide +kernel
theorem dX11_own_271 : decode cX11_own 271 = .ok (.iload_n 2, 1) := by decide +kernel
theorem dX11_own_272 : decode cX11_own 272 = .ok (.iconst 0, 1) := by decide +kernel
theorem dX11_own_273 : decode cX11_own 273 = .ok (.invokevirtual 122, 3) := by decide +kernel
theorem dX11_own_276 : decode cX11_own 276 = .ok (.iadd, 1) := by decide +kernel
theorem dX11_own_277 : decode cX11_own 277 = .ok (.iaload, 1) := by decide +kernel
theorem dX11_own_278 : decode cX11_own 278 = .ok (.iconst 1, 1) := by decide +kernel
theorem dX11_own_279 : decode cX11_own 279 = .ok (.if_icmp .le 7, 3) := by decide +kernel
theorem dX11_own_282 : decode cX11_own 282 = .ok (.iconst 1, 1) := by decide +kernel
theorem dX11_own_283 : decode cX11_own 283 = .ok (.goto 4, 3) := by decide +kernel
theorem dX11_own_286 : decode cX11_own 286 = .ok (.iconst 0, 1) := by decide +kernel
theorem dX11_own_287 : decode cX11_own 287 = .ok (.ireturn, 1) := by decide +kernel
theorem dX11_clashes1_0 : decode cX11_clashes1 0 = .ok (.aload_n 0, 1) := by decide +kernel
theorem dX11_clashes1_1 : decode cX11_clashes1 1 = .ok (.getfield 34, 3) := by decide +kernel
theorem dX11_clashes1_4 : decode cX11_clashes1 4 = .ok (.iload_n 1, 1) := by decide +kernel
theorem dX11_clashes1_5 : decode cX11_clashes1 5 = .ok (.iaload, 1) := by decide +kernel
theorem dX11_clashes1_6 : decode cX11_clashes1 6 = .ok (.istore_n 2, 1) := by decide +kernel
theorem dX11_clashes1_7 : decode cX11_clashes1 7 = .ok (.iload_n 2, 1) := by decide +kernel
theorem dX11_clashes1_8 : decode cX11_clashes1 8 = .ok (.iconst 1, 1) := by decide +kernel
theorem dX11_clashes1_9 : decode cX11_clashes1 9 = .ok (.if_icmp .eq 24, 3) := by decide +kernel
theorem dX11_clashes1_12 : decode cX11_clashes1 12 = .ok (.iload_n 2, 1) := by decide +kernel
theorem dX11_clashes1_13 : decode cX11_clashes1 13 = .ok (.iconst 2, 1) := by decide +kernel
theorem dX11_clashes1_14 : decode cX11_clashes1 14 = .ok (.if_icmp .eq 19, 3) := by decide +kernel
theorem dX11_clashes1_17 : decode cX11_clashes1 17 = .ok (.iload_n 2, 1) := by decide +kernel
theorem dX11_clashes1_18 : decode cX11_clashes1 18 = .ok (.iconst 3, 1) := by decide +kernel
theorem dX11_clashes1_19 : decode cX11_clashes1 19 = .ok (.if_icmp .eq 14, 3) := by decide +kernel
theorem dX11_clashes1_22 : decode cX11_clashes1 22 = .ok (.iload_n 2, 1) := by decide +kernel
theorem dX11_clashes1_23 : decode cX11_clashes1 23 = .ok (.iconst 5, 1) := by decide +kernel
theorem dX11_clashes1_24 : decode cX11_clashes1 24 = .ok (.if_icmp .eq 9, 3) := by decide +kernel
theorem dX11_clashes1_27 : decode cX11_clashes1 27 = .ok (.iload_n 2, 1) := by decide +kernel
theorem dX11_clashes1_28 : decode cX11_clashes1 28 = .ok (.bipush 7, 2) := by decide +kernel
theorem dX11_clashes1_30 : decode cX11_clashes1 30 = .ok (.if_icmp .ne 7, 3) := by decide +kernel
theorem dX11_clashes1_33 : decode cX11_clashes1 33 = .ok (.iconst 1, 1) := by decide +kernel
theorem dX11_clashes1_34 : decode cX11_clashes1 34 = .ok (.goto 4, 3) := by decide +kernel
theorem dX11_clashes1_37 : decode cX11_clashes1 37 = .ok (.iconst 0, 1) := by decide +kernel
theorem dX11_clashes1_38 : decode cX11_clashes1 38 = .ok (.ireturn, 1) := by decide +kernel
theorem dX11_clash_0 : decode cX11_clash 0 = .ok (.sipush 812, 3) := by decide +kernel
theorem dX11_clash_3 : decode cX11_clash 3 = .ok (.iload_n 1, 1) := by decide +kernel
theorem dX11_clash_4 : decode cX11_clash 4 = .ok (.imul, 1) := by decide +kernel
theorem dX11_clash_5 : decode cX11_clash 5 = .ok (.istore_n 3, 1) := by decide +kernel
theorem dX11_clash_6 : decode cX11_clash 6 = .ok (.iload_n 3, 1) := by decide +kernel
theorem dX11_clash_7 : decode cX11_clash 7 = .ok (.sipush 512, 3) := by decide +kernel
theorem dX11_clash_10 : decode cX11_clash 10 = .ok (.iadd, 1) := by decide +kernel
theorem dX11_clash_11 : decode cX11_clash 11 = .ok (.aload_n 0, 1) := by decide +kernel
theorem dX11_clash_12 : decode cX11_clash 12 = .ok (.iload_n 1, 1) := by decide +kernel
theorem dX11_clash_13 : decode cX11_clash 13 = .ok (.iload_n 2, 1) := by decide +kernel
theorem dX11_clash_14 : decode cX11_clash 14 = .ok (.iconst 0, 1) := by decide +kernel
theorem dX11_clash_15 : decode cX11_clash 15 = .ok (.invokevirtual 122, 3) := by decide +kernel
theorem dX11_clash_18 : decode cX11_clash 18 = .ok (.iadd, 1) := by decide +kernel
theorem dX11_clash_19 : decode cX11_clash 19 = .ok (.istore 4, 2) := by decide +kernel
theorem dX11_clash_21 : decode cX11_clash 21 = .ok (.aload_n 0, 1) := by decide +kernel
theorem dX11_clash_22 : decode cX11_clash 22 = .ok (.getfield 49, 3) := by decide +kernel
theorem dX11_clash_25 : decode cX11_clash 25 = .ok (.iload 4, 2) := by decide +kernel
theorem dX11_clash_27 : decode cX11_clash 27 = .ok (.iaload, 1) := by decide +kernel
theorem dX11_clash_28 : decode cX11_clash 28 = .ok (.istore 5, 2) := by decide +kernel
theorem dX11_clash_30 : decode cX11_clash 30 = .ok (.aload_n 0, 1) := by decide +kernel
theorem dX11_clash_31 : decode cX11_clash 31 = .ok (.getfield 49, 3) := by decide +kernel
theorem dX11_clash_34 : decode cX11_clash 34 = .ok (.iload 4, 2) := by decide +kernel
theorem dX11_clash_36 : decode cX11_clash 36 = .ok (.iload_n 2, 1) := by decide +kernel
theorem dX11_clash_37 : decode cX11_clash 37 = .ok (.iastore, 1) := by decide +kernel
theorem dX11_clash_38 : decode cX11_clash 38 = .ok (.iload 5, 2) := by decide +kernel
theorem dX11_clash_40 : decode cX11_clash 40 = .ok (.ifCond .lt 9, 3) := by decide +kernel
theorem dX11_clash_43 : decode cX11_clash 43 = .ok (.iload 5, 2) := by decide +kernel
theorem dX11_clash_45 : decode cX11_clash 45 = .ok (.iload_n 2, 1) := by decide +kernel
theorem dX11_clash_46 : decode cX11_clash 46 = .ok (.if_icmp .ne 4, 3) := by decide +kernel
theorem dX11_clash_49 : decode cX11_clash 49 = .ok (.return_, 1) := by decide +kernel
theorem dX11_clash_50 : decode cX11_clash 50 = .ok (.aload_n 0, 1) := by decide +kernel
theorem dX11_clash_51 : decode cX11_clash 51 = .ok (.getfield 49, 3) := by decide +kernel
theorem dX11_clash_54 : decode cX11_clash 54 = .ok (.iload_n 3, 1) := by decide +kernel
theorem dX11_clash_55 : decode cX11_clash 55 = .ok (.sipush 810, 3) := by decide +kernel
theorem dX11_clash_58 : decode cX11_clash 58 = .ok (.iadd, 1) := by decide +kernel
theorem dX11_clash_59 : decode cX11_clash 59 = .ok (.dup2, 1) := by decide +kernel
theorem dX11_clash_60 : decode cX11_clash 60 = .ok (.iaload, 1) := by decide +kernel
theorem dX11_clash_61 : decode cX11_clash 61 = .ok (.iconst 1, 1) := by decide +kernel
theorem dX11_clash_62 : decode cX11_clash 62 = .ok (.iadd, 1) := by decide +kernel
theorem dX11_clash_63 : decode cX11_clash 63 = .ok (.iastore, 1) := by decide +kernel
theorem dX11_clash_64 : decode cX11_clash 64 = .ok (.iload 5, 2) := by decide +kernel
theorem dX11_clash_66 : decode cX11_clash 66 = .ok (.iload_n 2, 1) := by decide +kernel
theorem dX11_clash_67 : decode cX11_clash 67 = .ok (.if_icmp .ge 13, 3) := by decide +kernel
theorem dX11_clash_70 : decode cX11_clash 70 = .ok (.bipush 64, 2) := by decide +kernel
theorem dX11_clash_72 : decode cX11_clash 72 = .ok (.iload 5, 2) := by decide +kernel
theorem dX11_clash_74 : decode cX11_clash 74 = .ok (.imul, 1) := by decide +kernel
theorem dX11_clash_75 : decode cX11_clash 75 = .ok (.iload_n 2, 1) := by decide +kernel
theorem dX11_clash_76 : decode cX11_clash 76 = .ok (.iadd, 1) := by decide +kernel
theorem dX11_clash_77 : decode cX11_clash 77 = .ok (.goto 10, 3) := by decide +kernel
theorem dX11_clash_80 : decode cX11_clash 80 = .ok (.bipush 64, 2) := by decide +kernel
theorem dX11_clash_82 : decode cX11_clash 82 = .ok (.iload_n 2, 1) := by decide +kernel
theorem dX11_clash_83 : decode cX11_clash 83 = .ok (.imul, 1) := by decide +kernel
theorem dX11_clash_84 : decode cX11_clash 84 = .ok (.iload 5, 2) := by decide +kernel
theorem dX11_clash_86 : decode cX11_clash 86 = .ok (.iadd, 1) := by decide +kernel
theorem dX11_clash_87 : decode cX11_clash 87 = .ok (.istore 6, 2) := by decide +kernel
theorem dX11_clash_89 : decode cX11_clash 89 = .ok (.iconst 0, 1) := by decide +kernel
theorem dX11_clash_90 : decode cX11_clash 90 = .ok (.istore 7, 2) := by decide +kernel
theorem dX11_clash_92 : decode cX11_clash 92 = .ok (.iload 7, 2) := by decide +kernel
theorem dX11_clash_94 : decode cX11_clash 94 = .ok (.aload_n 0, 1) := by decide +kernel
theorem dX11_clash_95 : decode cX11_clash 95 = .ok (.getfield 49, 3) := by decide +kernel
theorem dX11_clash_98 : decode cX11_clash 98 = .ok (.iload_n 3, 1) := by decide +kernel
theorem dX11_clash_99 : decode cX11_clash 99 = .ok (.sipush 811, 3) := by decide +kernel
theorem dX11_clash_102 : decode cX11_clash 102 = .ok (.iadd, 1) := by decide +kernel
theorem dX11_clash_103 : decode cX11_clash 103 = .ok (.iaload, 1) := by decide +kernel
theorem dX11_clash_104 : decode cX11_clash 104 = .ok (.if_icmp .ge 28, 3) := by decide +kernel
theorem dX11_clash_107 : decode cX11_clash 107 = .ok (.aload_n 0, 1) := by decide +kernel
theorem dX11_clash_108 : decode cX11_clash 108 = .ok (.getfield 49, 3) := by decide +kernel
theorem dX11_clash_111 : decode cX11_clash 111 = .ok (.iload_n 3, 1) := by decide +kernel
theorem dX11_clash_112 : decode cX11_clash 112 = .ok (.sipush 768, 3) := by decide +kernel
theorem dX11_clash_115 : decode cX11_clash 115 = .ok (.iadd, 1) := by decide +kernel
theorem dX11_clash_116 : decode cX11_clash 116 = .ok (.iload 7, 2) := by decide +kernel
theorem dX11_clash_118 : decode cX11_clash 118 = .ok (.iadd, 1) := by decide +kernel
theorem dX11_clash_119 : decode cX11_clash 119 = .ok (.iaload, 1) := by decide +kernel
theorem dX11_clash_120 : decode cX11_clash 120 = .ok (.iload 6, 2) := by decide +kernel
theorem dX11_clash_122 : decode cX11_clash 122 = .ok (.if_icmp .ne 4, 3) := by decide +kernel
theorem dX11_clash_125 : decode cX11_clash 125 = .ok (.return_, 1) := by decide +kernel
theorem dX11_clash_126 : decode cX11_clash 126 = .ok (.iinc 7 1, 3) := by decide +kernel
theorem dX11_clash_129 : decode cX11_clash 129 = .ok (.goto (-37), 3) := by decide +kernel
theorem dX11_clash_132 : decode cX11_clash 132 = .ok (.aload_n 0, 1) := by decide +kernel
theorem dX11_clash_133 : decode cX11_clash 133 = .ok (.getfield 49, 3) := by decide +kernel
theorem dX11_clash_136 : decode cX11_clash 136 = .ok (.iload_n 3, 1) := by decide +kernel
theorem dX11_clash_137 : decode cX11_clash 137 = .ok (.sipush 811, 3) := by decide +kernel
theorem dX11_clash_140 : decode cX11_clash 140 = .ok (.iadd, 1) := by decide +kernel
theorem dX11_clash_141 : decode cX11_clash 141 = .ok (.iaload, 1) := by decide +kernel
theorem dX11_clash_142 : decode cX11_clash 142 = .ok (.bipush 40, 2) := by decide +kernel
theorem dX11_clash_144 : decode cX11_clash 144 = .ok (.if_icmp .ge 40, 3) := by decide +kernel
theorem dX11_clash_147 : decode cX11_clash 147 = .ok (.aload_n 0, 1) := by decide +kernel
theorem dX11_clash_148 : decode cX11_clash 148 = .ok (.getfield 49, 3) := by decide +kernel
theorem dX11_clash_151 : decode cX11_clash 151 = .ok (.iload_n 3, 1) := by decide +kernel
theorem dX11_clash_152 : decode cX11_clash 152 = .ok (.sipush 768, 3) := by decide +kernel
theorem dX11_clash_155 : decode cX11_clash 155 = .ok (.iadd, 1) := by decide +kernel
theorem dX11_clash_156 : decode cX11_clash 156 = .ok (.aload_n 0, 1) := by decide +kernel
theorem dX11_clash_157 : decode cX11_clash 157 = .ok (.getfield 49, 3) := by decide +kernel
theorem dX11_clash_160 : decode cX11_clash 160 = .ok (.iload_n 3, 1) := by decide +kernel
theorem dX11_clash_161 : decode cX11_clash 161 = .ok (.sipush 811, 3) := by decide +kernel
theorem dX11_clash_164 : decode cX11_clash 164 = .ok (.iadd, 1) := by decide +kernel
theorem dX11_clash_165 : decode cX11_clash 165 = .ok (.iaload, 1) := by decide +kernel
theorem dX11_clash_166 : decode cX11_clash 166 = .ok (.iadd, 1) := by decide +kernel
theorem dX11_clash_167 : decode cX11_clash 167 = .ok (.iload 6, 2) := by decide +kernel
theorem dX11_clash_169 : decode cX11_clash 169 = .ok (.iastore, 1) := by decide +kernel
theorem dX11_clash_170 : decode cX11_clash 170 = .ok (.aload_n 0, 1) := by decide +kernel
theorem dX11_clash_171 : decode cX11_clash 171 = .ok (.getfield 49, 3) := by decide +kernel
theorem dX11_clash_174 : decode cX11_clash 174 = .ok (.iload_n 3, 1) := by decide +kernel
theorem dX11_clash_175 : decode cX11_clash 175 = .ok (.sipush 811, 3) := by decide +kernel
theorem dX11_clash_178 : decode cX11_clash 178 = .ok (.iadd, 1) := by decide +kernel
theorem dX11_clash_179 : decode cX11_clash 179 = .ok (.dup2, 1) := by decide +kernel
theorem dX11_clash_180 : decode cX11_clash 180 = .ok (.iaload, 1) := by decide +kernel
theorem dX11_clash_181 : decode cX11_clash 181 = .ok (.iconst 1, 1) := by decide +kernel
theorem dX11_clash_182 : decode cX11_clash 182 = .ok (.iadd, 1) := by decide +kernel
theorem dX11_clash_183 : decode cX11_clash 183 = .ok (.iastore, 1) := by decide +kernel
theorem dX11_clash_184 : decode cX11_clash 184 = .ok (.return_, 1) := by decide +kernel
theorem dX11_asks_0 : decode cX11_asks 0 = .ok (.sipush 812, 3) := by decide +kernel
theorem dX11_asks_3 : decode cX11_asks 3 = .ok (.iload_n 1, 1) := by decide +kernel
theorem dX11_asks_4 : decode cX11_asks 4 = .ok (.imul, 1) := by decide +kernel
theorem dX11_asks_5 : decode cX11_asks 5 = .ok (.istore 4, 2) := by decide +kernel
theorem dX11_asks_7 : decode cX11_asks 7 = .ok (.aload_n 0, 1) := by decide +kernel
theorem dX11_asks_8 : decode cX11_asks 8 = .ok (.iload_n 1, 1) := by decide +kernel
theorem dX11_asks_9 : decode cX11_asks 9 = .ok (.invokevirtual 129, 3) := by decide +kernel
theorem dX11_asks_12 : decode cX11_asks 12 = .ok (.ifCond .eq 9, 3) := by decide +kernel
theorem dX11_asks_15 : decode cX11_asks 15 = .ok (.aload_n 0, 1) := by decide +kernel
theorem dX11_asks_16 : decode cX11_asks 16 = .ok (.iload_n 1, 1) := by decide +kernel
theorem dX11_asks_17 : decode cX11_asks 17 = .ok (.iload_n 2, 1) := by decide +kernel
theorem dX11_asks_18 : decode cX11_asks 18 = .ok (.invokevirtual 132, 3) := by decide +kernel
theorem dX11_asks_21 : decode cX11_asks 21 = .ok (.aload_n 0, 1) := by decide +kernel
theorem dX11_asks_22 : decode cX11_asks 22 = .ok (.getfield 34, 3) := by decide +kernel
theorem dX11_asks_25 : decode cX11_asks 25 = .ok (.iload_n 1, 1) := by decide +kernel
theorem dX11_asks_26 : decode cX11_asks 26 = .ok (.iaload, 1) := by decide +kernel
theorem dX11_asks_27 : decode cX11_asks 27 = .ok (.bipush 7, 2) := by decide +kernel
theorem dX11_asks_29 : decode cX11_asks 29 = .ok (.if_icmp .ne 17, 3) := by decide +kernel
theorem dX11_asks_32 : decode cX11_asks 32 = .ok (.aload_n 0, 1) := by decide +kernel
theorem dX11_asks_33 : decode cX11_asks 33 = .ok (.getfield 59, 3) := by decide +kernel
theorem dX11_asks_36 : decode cX11_asks 36 = .ok (.aload_n 0, 1) := by decide +kernel
theorem dX11_asks_37 : decode cX11_asks 37 = .ok (.getfield 37, 3) := by decide +kernel
theorem dX11_asks_40 : decode cX11_asks 40 = .ok (.iload_n 1, 1) := by decide +kernel
theorem dX11_asks_41 : decode cX11_asks 41 = .ok (.iaload, 1) := by decide +kernel
theorem dX11_asks_42 : decode cX11_asks 42 = .ok (.iaload, 1) := by decide +kernel
theorem dX11_asks_43 : decode cX11_asks 43 = .ok (.goto 4, 3) := by decide +kernel
theorem dX11_asks_46 : decode cX11_asks 46 = .ok (.iconst 0, 1) := by decide +kernel
theorem dX11_asks_47 : decode cX11_asks 47 = .ok (.istore 5, 2) := by decide +kernel
theorem dX11_asks_49 : decode cX11_asks 49 = .ok (.aload_n 0, 1) := by decide +kernel
theorem dX11_asks_50 : decode cX11_asks 50 = .ok (.getfield 34, 3) := by decide +kernel
theorem dX11_asks_53 : decode cX11_asks 53 = .ok (.iload_n 1, 1) := by decide +kernel
theorem dX11_asks_54 : decode cX11_asks 54 = .ok (.iaload, 1) := by decide +kernel
theorem dX11_asks_55 : decode cX11_asks 55 = .ok (.bipush 7, 2) := by decide +kernel
theorem dX11_asks_57 : decode cX11_asks 57 = .ok (.if_icmp .ne 17, 3) := by decide +kernel
theorem dX11_asks_60 : decode cX11_asks 60 = .ok (.aload_n 0, 1) := by decide +kernel
theorem dX11_asks_61 : decode cX11_asks 61 = .ok (.getfield 59, 3) := by decide +kernel
theorem dX11_asks_64 : decode cX11_asks 64 = .ok (.aload_n 0, 1) := by decide +kernel
theorem dX11_asks_65 : decode cX11_asks 65 = .ok (.getfield 40, 3) := by decide +kernel
theorem dX11_asks_68 : decode cX11_asks 68 = .ok (.iload_n 1, 1) := by decide +kernel
theorem dX11_asks_69 : decode cX11_asks 69 = .ok (.iaload, 1) := by decide +kernel
theorem dX11_asks_70 : decode cX11_asks 70 = .ok (.iaload, 1) := by decide +kernel
theorem dX11_asks_71 : decode cX11_asks 71 = .ok (.goto 4, 3) := by decide +kernel
theorem dX11_asks_74 : decode cX11_asks 74 = .ok (.iconst 0, 1) := by decide +kernel
theorem dX11_asks_75 : decode cX11_asks 75 = .ok (.istore 6, 2) := by decide +kernel
theorem dX11_asks_77 : decode cX11_asks 77 = .ok (.aload_n 0, 1) := by decide +kernel
theorem dX11_asks_78 : decode cX11_asks 78 = .ok (.getfield 46, 3) := by decide +kernel
theorem dX11_asks_81 : decode cX11_asks 81 = .ok (.bipush 64, 2) := by decide +kernel
theorem dX11_asks_83 : decode cX11_asks 83 = .ok (.iload_n 1, 1) := by decide +kernel
theorem dX11_asks_84 : decode cX11_asks 84 = .ok (.imul, 1) := by decide +kernel
theorem dX11_asks_85 : decode cX11_asks 85 = .ok (.iload_n 2, 1) := by decide +kernel
theorem dX11_asks_86 : decode cX11_asks 86 = .ok (.iadd, 1) := by decide +kernel
theorem dX11_asks_87 : decode cX11_asks 87 = .ok (.iaload, 1) := by decide +kernel
theorem dX11_asks_88 : decode cX11_asks 88 = .ok (.istore 7, 2) := by decide +kernel
theorem dX11_asks_90 : decode cX11_asks 90 = .ok (.aload_n 0, 1) := by decide +kernel
theorem dX11_asks_91 : decode cX11_asks 91 = .ok (.getfield 59, 3) := by decide +kernel
theorem dX11_asks_94 : decode cX11_asks 94 = .ok (.iload_n 1, 1) := by decide +kernel
theorem dX11_asks_95 : decode cX11_asks 95 = .ok (.iload 7, 2) := by decide +kernel
theorem dX11_asks_97 : decode cX11_asks 97 = .ok (.ifCond .lt 8, 3) := by decide +kernel
theorem dX11_asks_100 : decode cX11_asks 100 = .ok (.iload 7, 2) := by decide +kernel
theorem dX11_asks_102 : decode cX11_asks 102 = .ok (.goto 13, 3) := by decide +kernel
theorem dX11_asks_105 : decode cX11_asks 105 = .ok (.aload_n 0, 1) := by decide +kernel
theorem dX11_asks_106 : decode cX11_asks 106 = .ok (.iload_n 1, 1) := by decide +kernel
theorem dX11_asks_107 : decode cX11_asks 107 = .ok (.iload_n 2, 1) := by decide +kernel
theorem dX11_asks_108 : decode cX11_asks 108 = .ok (.iload 5, 2) := by decide +kernel
theorem dX11_asks_110 : decode cX11_asks 110 = .ok (.iload 6, 2) := by decide +kernel
theorem dX11_asks_112 : decode cX11_asks 112 = .ok (.invokevirtual 135, 3) := by decide +kernel
theorem dX11_asks_115 : decode cX11_asks 115 = .ok (.iastore, 1) := by decide +kernel
theorem dX11_asks_116 : decode cX11_asks 116 = .ok (.aload_n 0, 1) := by decide +kernel
theorem dX11_asks_117 : decode cX11_asks 117 = .ok (.getfield 59, 3) := by decide +kernel
theorem dX11_asks_120 : decode cX11_asks 120 = .ok (.iload_n 1, 1) := by decide +kernel
theorem dX11_asks_121 : decode cX11_asks 121 = .ok (.iaload, 1) := by decide +kernel
theorem dX11_asks_122 : decode cX11_asks 122 = .ok (.iload_n 3, 1) := by decide +kernel
theorem dX11_asks_123 : decode cX11_asks 123 = .ok (.if_icmp .eq 7, 3) := by decide +kernel
theorem dX11_asks_126 : decode cX11_asks 126 = .ok (.iconst 1, 1) := by decide +kernel
theorem dX11_asks_127 : decode cX11_asks 127 = .ok (.goto 4, 3) := by decide +kernel
theorem dX11_asks_130 : decode cX11_asks 130 = .ok (.iconst 0, 1) := by decide +kernel
theorem dX11_asks_131 : decode cX11_asks 131 = .ok (.istore 8, 2) := by decide +kernel
theorem dX11_asks_133 : decode cX11_asks 133 = .ok (.aload_n 0, 1) := by decide +kernel
theorem dX11_asks_134 : decode cX11_asks 134 = .ok (.getfield 49, 3) := by decide +kernel
theorem dX11_asks_137 : decode cX11_asks 137 = .ok (.iload 4, 2) := by decide +kernel
theorem dX11_asks_139 : decode cX11_asks 139 = .ok (.sipush 448, 3) := by decide +kernel
theorem dX11_asks_142 : decode cX11_asks 142 = .ok (.iadd, 1) := by decide +kernel
theorem dX11_asks_143 : decode cX11_asks 143 = .ok (.iload_n 2, 1) := by decide +kernel
theorem dX11_asks_144 : decode cX11_asks 144 = .ok (.iadd, 1) := by decide +kernel
theorem dX11_asks_145 : decode cX11_asks 145 = .ok (.dup2, 1) := by decide +kernel
theorem dX11_asks_146 : decode cX11_asks 146 = .ok (.iaload, 1) := by decide +kernel
theorem dX11_asks_147 : decode cX11_asks 147 = .ok (.iload 8, 2) := by decide +kernel
theorem dX11_asks_149 : decode cX11_asks 149 = .ok (.ifCond .eq 7, 3) := by decide +kernel
theorem dX11_asks_152 : decode cX11_asks 152 = .ok (.iconst 1, 1) := by decide +kernel
theorem dX11_asks_153 : decode cX11_asks 153 = .ok (.goto 4, 3) := by decide +kernel
theorem dX11_asks_156 : decode cX11_asks 156 = .ok (.iconst 0, 1) := by decide +kernel
theorem dX11_asks_157 : decode cX11_asks 157 = .ok (.iadd, 1) := by decide +kernel
theorem dX11_asks_158 : decode cX11_asks 158 = .ok (.iastore, 1) := by decide +kernel
theorem dX11_asks_159 : decode cX11_asks 159 = .ok (.aload_n 0, 1) := by decide +kernel
theorem dX11_asks_160 : decode cX11_asks 160 = .ok (.getfield 49, 3) := by decide +kernel
theorem dX11_asks_163 : decode cX11_asks 163 = .ok (.iload 4, 2) := by decide +kernel
theorem dX11_asks_165 : decode cX11_asks 165 = .ok (.sipush 809, 3) := by decide +kernel
theorem dX11_asks_168 : decode cX11_asks 168 = .ok (.iadd, 1) := by decide +kernel
theorem dX11_asks_169 : decode cX11_asks 169 = .ok (.dup2, 1) := by decide +kernel
theorem dX11_asks_170 : decode cX11_asks 170 = .ok (.iaload, 1) := by decide +kernel
theorem dX11_asks_171 : decode cX11_asks 171 = .ok (.iconst 1, 1) := by decide +kernel
theorem dX11_asks_172 : decode cX11_asks 172 = .ok (.iadd, 1) := by decide +kernel
theorem dX11_asks_173 : decode cX11_asks 173 = .ok (.iastore, 1) := by decide +kernel
theorem dX11_asks_174 : decode cX11_asks 174 = .ok (.aload_n 0, 1) := by decide +kernel
theorem dX11_asks_175 : decode cX11_asks 175 = .ok (.getfield 34, 3) := by decide +kernel
theorem dX11_asks_178 : decode cX11_asks 178 = .ok (.iload_n 1, 1) := by decide +kernel
theorem dX11_asks_179 : decode cX11_asks 179 = .ok (.iaload, 1) := by decide +kernel
theorem dX11_asks_180 : decode cX11_asks 180 = .ok (.tableswitch 144 0 7 #[48, 144, 144, 144, 51, 85, 95, 109], 48) := by decide +kernel
theorem dX11_asks_228 : decode cX11_asks 228 = .ok (.goto 111, 3) := by decide +kernel
theorem dX11_asks_231 : decode cX11_asks 231 = .ok (.iconst 0, 1) := by decide +kernel
theorem dX11_asks_232 : decode cX11_asks 232 = .ok (.istore 9, 2) := by decide +kernel
theorem dX11_asks_234 : decode cX11_asks 234 = .ok (.iload 9, 2) := by decide +kernel
theorem dX11_asks_236 : decode cX11_asks 236 = .ok (.iconst 3, 1) := by decide +kernel
theorem dX11_asks_237 : decode cX11_asks 237 = .ok (.if_icmp .ge 25, 3) := by decide +kernel
theorem dX11_asks_240 : decode cX11_asks 240 = .ok (.aload_n 0, 1) := by decide +kernel
theorem dX11_asks_241 : decode cX11_asks 241 = .ok (.iload 4, 2) := by decide +kernel
theorem dX11_asks_243 : decode cX11_asks 243 = .ok (.aload_n 0, 1) := by decide +kernel
theorem dX11_asks_244 : decode cX11_asks 244 = .ok (.iload_n 1, 1) := by decide +kernel
theorem dX11_asks_245 : decode cX11_asks 245 = .ok (.iload_n 2, 1) := by decide +kernel
theorem dX11_asks_246 : decode cX11_asks 246 = .ok (.iload 9, 2) := by decide +kernel
theorem dX11_asks_248 : decode cX11_asks 248 = .ok (.invokevirtual 122, 3) := by decide +kernel
theorem dX11_asks_251 : decode cX11_asks 251 = .ok (.iadd, 1) := by decide +kernel
theorem dX11_asks_252 : decode cX11_asks 252 = .ok (.iload_n 3, 1) := by decide +kernel
theorem dX11_asks_253 : decode cX11_asks 253 = .ok (.invokevirtual 139, 3) := by decide +kernel
theorem dX11_asks_256 : decode cX11_asks 256 = .ok (.iinc 9 1, 3) := by decide +kernel
theorem dX11_asks_259 : decode cX11_asks 259 = .ok (.goto (-25), 3) := by decide +kernel
theorem dX11_asks_262 : decode cX11_asks 262 = .ok (.goto 77, 3) := by decide +kernel
theorem dX11_asks_265 : decode cX11_asks 265 = .ok (.aload_n 0, 1) := by decide +kernel
theorem dX11_asks_266 : decode cX11_asks 266 = .ok (.iload_n 1, 1) := by decide +kernel
theorem dX11_asks_267 : decode cX11_asks 267 = .ok (.iload_n 2, 1) := by decide +kernel
theorem dX11_asks_268 : decode cX11_asks 268 = .ok (.iload_n 3, 1) := by decide +kernel
theorem dX11_asks_269 : decode cX11_asks 269 = .ok (.invokevirtual 142, 3) := by decide +kernel
theorem dX11_asks_272 : decode cX11_asks 272 = .ok (.goto 67, 3) := by decide +kernel
theorem dX11_asks_275 : decode cX11_asks 275 = .ok (.aload_n 0, 1) := by decide +kernel
theorem dX11_asks_276 : decode cX11_asks 276 = .ok (.iload 4, 2) := by decide +kernel
theorem dX11_asks_278 : decode cX11_asks 278 = .ok (.iconst 3, 1) := by decide +kernel
theorem dX11_asks_279 : decode cX11_asks 279 = .ok (.iload_n 2, 1) := by decide +kernel
theorem dX11_asks_280 : decode cX11_asks 280 = .ok (.imul, 1) := by decide +kernel
theorem dX11_asks_281 : decode cX11_asks 281 = .ok (.iadd, 1) := by decide +kernel
theorem dX11_asks_282 : decode cX11_asks 282 = .ok (.iload_n 3, 1) := by decide +kernel
theorem dX11_asks_283 : decode cX11_asks 283 = .ok (.invokevirtual 145, 3) := by decide +kernel
theorem dX11_asks_286 : decode cX11_asks 286 = .ok (.goto 53, 3) := by decide +kernel
theorem dX11_asks_289 : decode cX11_asks 289 = .ok (.iload 5, 2) := by decide +kernel
theorem dX11_asks_291 : decode cX11_asks 291 = .ok (.iload 6, 2) := by decide +kernel
theorem dX11_asks_293 : decode cX11_asks 293 = .ok (.if_icmp .eq 46, 3) := by decide +kernel
theorem dX11_asks_296 : decode cX11_asks 296 = .ok (.aload_n 0, 1) := by decide +kernel
theorem dX11_asks_297 : decode cX11_asks 297 = .ok (.iload 4, 2) := by decide +kernel
theorem dX11_asks_299 : decode cX11_asks 299 = .ok (.aload_n 0, 1) := by decide +kernel
theorem dX11_asks_300 : decode cX11_asks 300 = .ok (.iload_n 1, 1) := by decide +kernel
theorem dX11_asks_301 : decode cX11_asks 301 = .ok (.iload_n 2, 1) := by decide +kernel
theorem dX11_asks_302 : decode cX11_asks 302 = .ok (.iconst 0, 1) := by decide +kernel
theorem dX11_asks_303 : decode cX11_asks 303 = .ok (.invokevirtual 122, 3) := by decide +kernel
theorem dX11_asks_306 : decode cX11_asks 306 = .ok (.iadd, 1) := by decide +kernel
theorem dX11_asks_307 : decode cX11_asks 307 = .ok (.iload 6, 2) := by decide +kernel
theorem dX11_asks_309 : decode cX11_asks 309 = .ok (.iload_n 3, 1) := by decide +kernel
theorem dX11_asks_310 : decode cX11_asks 310 = .ok (.if_icmp .ne 7, 3) := by decide +kernel
theorem dX11_asks_313 : decode cX11_asks 313 = .ok (.iconst 1, 1) := by decide +kernel
theorem dX11_asks_314 : decode cX11_asks 314 = .ok (.goto 4, 3) := by decide +kernel
theorem dX11_asks_317 : decode cX11_asks 317 = .ok (.iconst 0, 1) := by decide +kernel
theorem dX11_asks_318 : decode cX11_asks 318 = .ok (.invokevirtual 139, 3) := by decide +kernel
theorem dX11_asks_321 : decode cX11_asks 321 = .ok (.goto 18, 3) := by decide +kernel
theorem dX11_asks_324 : decode cX11_asks 324 = .ok (.aload_n 0, 1) := by decide +kernel
theorem dX11_asks_325 : decode cX11_asks 325 = .ok (.iload 4, 2) := by decide +kernel
theorem dX11_asks_327 : decode cX11_asks 327 = .ok (.aload_n 0, 1) := by decide +kernel
theorem dX11_asks_328 : decode cX11_asks 328 = .ok (.iload_n 1, 1) := by decide +kernel
theorem dX11_asks_329 : decode cX11_asks 329 = .ok (.iload_n 2, 1) := by decide +kernel
theorem dX11_asks_330 : decode cX11_asks 330 = .ok (.iconst 0, 1) := by decide +kernel
theorem dX11_asks_331 : decode cX11_asks 331 = .ok (.invokevirtual 122, 3) := by decide +kernel
theorem dX11_asks_334 : decode cX11_asks 334 = .ok (.iadd, 1) := by decide +kernel
theorem dX11_asks_335 : decode cX11_asks 335 = .ok (.iload_n 3, 1) := by decide +kernel
theorem dX11_asks_336 : decode cX11_asks 336 = .ok (.invokevirtual 139, 3) := by decide +kernel
theorem dX11_asks_339 : decode cX11_asks 339 = .ok (.aload_n 0, 1) := by decide +kernel
theorem dX11_asks_340 : decode cX11_asks 340 = .ok (.getfield 49, 3) := by decide +kernel
theorem dX11_asks_343 : decode cX11_asks 343 = .ok (.iload 4, 2) := by decide +kernel
theorem dX11_asks_345 : decode cX11_asks 345 = .ok (.sipush 808, 3) := by decide +kernel
theorem dX11_asks_348 : decode cX11_asks 348 = .ok (.iadd, 1) := by decide +kernel
theorem dX11_asks_349 : decode cX11_asks 349 = .ok (.aload_n 0, 1) := by decide +kernel
theorem dX11_asks_350 : decode cX11_asks 350 = .ok (.getfield 49, 3) := by decide +kernel
theorem dX11_asks_353 : decode cX11_asks 353 = .ok (.iload 4, 2) := by decide +kernel
theorem dX11_asks_355 : decode cX11_asks 355 = .ok (.sipush 808, 3) := by decide +kernel
theorem dX11_asks_358 : decode cX11_asks 358 = .ok (.iadd, 1) := by decide +kernel
theorem dX11_asks_359 : decode cX11_asks 359 = .ok (.iaload, 1) := by decide +kernel
theorem dX11_asks_360 : decode cX11_asks 360 = .ok (.iconst 1, 1) := by decide +kernel
theorem dX11_asks_361 : decode cX11_asks 361 = .ok (.ishl, 1) := by decide +kernel
theorem dX11_asks_362 : decode cX11_asks 362 = .ok (.iload_n 3, 1) := by decide +kernel
theorem dX11_asks_363 : decode cX11_asks 363 = .ok (.ior, 1) := by decide +kernel
theorem dX11_asks_364 : decode cX11_asks 364 = .ok (.ldc 148, 2) := by decide +kernel
theorem dX11_asks_366 : decode cX11_asks 366 = .ok (.iand, 1) := by decide +kernel
theorem dX11_asks_367 : decode cX11_asks 367 = .ok (.iastore, 1) := by decide +kernel
theorem dX11_asks_368 : decode cX11_asks 368 = .ok (.aload_n 0, 1) := by decide +kernel
theorem dX11_asks_369 : decode cX11_asks 369 = .ok (.getfield 49, 3) := by decide +kernel
theorem dX11_asks_372 : decode cX11_asks 372 = .ok (.iload 4, 2) := by decide +kernel
theorem dX11_asks_374 : decode cX11_asks 374 = .ok (.sipush 384, 3) := by decide +kernel
theorem dX11_asks_377 : decode cX11_asks 377 = .ok (.iadd, 1) := by decide +kernel
theorem dX11_asks_378 : decode cX11_asks 378 = .ok (.iload_n 2, 1) := by decide +kernel
theorem dX11_asks_379 : decode cX11_asks 379 = .ok (.iadd, 1) := by decide +kernel
theorem dX11_asks_380 : decode cX11_asks 380 = .ok (.aload_n 0, 1) := by decide +kernel
theorem dX11_asks_381 : decode cX11_asks 381 = .ok (.getfield 49, 3) := by decide +kernel
theorem dX11_asks_384 : decode cX11_asks 384 = .ok (.iload 4, 2) := by decide +kernel
theorem dX11_asks_386 : decode cX11_asks 386 = .ok (.sipush 384, 3) := by decide +kernel
theorem dX11_asks_389 : decode cX11_asks 389 = .ok (.iadd, 1) := by decide +kernel
theorem dX11_asks_390 : decode cX11_asks 390 = .ok (.iload_n 2, 1) := by decide +kernel
theorem dX11_asks_391 : decode cX11_asks 391 = .ok (.iadd, 1) := by decide +kernel
theorem dX11_asks_392 : decode cX11_asks 392 = .ok (.iaload, 1) := by decide +kernel
theorem dX11_asks_393 : decode cX11_asks 393 = .ok (.iconst 1, 1) := by decide +kernel
theorem dX11_asks_394 : decode cX11_asks 394 = .ok (.ishl, 1) := by decide +kernel
theorem dX11_asks_395 : decode cX11_asks 395 = .ok (.iload_n 3, 1) := by decide +kernel
theorem dX11_asks_396 : decode cX11_asks 396 = .ok (.ior, 1) := by decide +kernel
theorem dX11_asks_397 : decode cX11_asks 397 = .ok (.ldc 148, 2) := by decide +kernel
theorem dX11_asks_399 : decode cX11_asks 399 = .ok (.iand, 1) := by decide +kernel
theorem dX11_asks_400 : decode cX11_asks 400 = .ok (.iastore, 1) := by decide +kernel
theorem dX11_asks_401 : decode cX11_asks 401 = .ok (.return_, 1) := by decide +kernel
theorem dX11_turn_0 : decode cX11_turn 0 = .ok (.aload_n 0, 1) := by decide +kernel
theorem dX11_turn_1 : decode cX11_turn 1 = .ok (.getfield 49, 3) := by decide +kernel
theorem dX11_turn_4 : decode cX11_turn 4 = .ok (.iload_n 1, 1) := by decide +kernel
theorem dX11_turn_5 : decode cX11_turn 5 = .ok (.iaload, 1) := by decide +kernel
theorem dX11_turn_6 : decode cX11_turn 6 = .ok (.istore_n 3, 1) := by decide +kernel
theorem dX11_turn_7 : decode cX11_turn 7 = .ok (.aload_n 0, 1) := by decide +kernel
theorem dX11_turn_8 : decode cX11_turn 8 = .ok (.getfield 49, 3) := by decide +kernel
theorem dX11_turn_11 : decode cX11_turn 11 = .ok (.iload_n 1, 1) := by decide +kernel
theorem dX11_turn_12 : decode cX11_turn 12 = .ok (.iload_n 2, 1) := by decide +kernel
theorem dX11_turn_13 : decode cX11_turn 13 = .ok (.iconst 1, 1) := by decide +kernel
theorem dX11_turn_14 : decode cX11_turn 14 = .ok (.if_icmp .ne 18, 3) := by decide +kernel
theorem dX11_turn_17 : decode cX11_turn 17 = .ok (.iload_n 3, 1) := by decide +kernel
theorem dX11_turn_18 : decode cX11_turn 18 = .ok (.iconst 3, 1) := by decide +kernel
theorem dX11_turn_19 : decode cX11_turn 19 = .ok (.if_icmp .ge 9, 3) := by decide +kernel
theorem dX11_turn_22 : decode cX11_turn 22 = .ok (.iload_n 3, 1) := by decide +kernel
theorem dX11_turn_23 : decode cX11_turn 23 = .ok (.iconst 1, 1) := by decide +kernel
theorem dX11_turn_24 : decode cX11_turn 24 = .ok (.iadd, 1) := by decide +kernel
theorem dX11_turn_25 : decode cX11_turn 25 = .ok (.goto 18, 3) := by decide +kernel
theorem dX11_turn_28 : decode cX11_turn 28 = .ok (.iconst 3, 1) := by decide +kernel
theorem dX11_turn_29 : decode cX11_turn 29 = .ok (.goto 14, 3) := by decide +kernel
theorem dX11_turn_32 : decode cX11_turn 32 = .ok (.iload_n 3, 1) := by decide +kernel
theorem dX11_turn_33 : decode cX11_turn 33 = .ok (.ifCond .le 9, 3) := by decide +kernel
theorem dX11_turn_36 : decode cX11_turn 36 = .ok (.iload_n 3, 1) := by decide +kernel
theorem dX11_turn_37 : decode cX11_turn 37 = .ok (.iconst 1, 1) := by decide +kernel
theorem dX11_turn_38 : decode cX11_turn 38 = .ok (.isub, 1) := by decide +kernel
theorem dX11_turn_39 : decode cX11_turn 39 = .ok (.goto 4, 3) := by decide +kernel
theorem dX11_turn_42 : decode cX11_turn 42 = .ok (.iconst 0, 1) := by decide +kernel
theorem dX11_turn_43 : decode cX11_turn 43 = .ok (.iastore, 1) := by decide +kernel
theorem dX11_turn_44 : decode cX11_turn 44 = .ok (.return_, 1) := by decide +kernel
theorem dX11_weigh_0 : decode cX11_weigh 0 = .ok (.aload_n 0, 1) := by decide +kernel
theorem dX11_weigh_1 : decode cX11_weigh 1 = .ok (.iload_n 1, 1) := by decide +kernel
theorem dX11_weigh_2 : decode cX11_weigh 2 = .ok (.iload_n 2, 1) := by decide +kernel
theorem dX11_weigh_3 : decode cX11_weigh 3 = .ok (.invokevirtual 126, 3) := by decide +kernel
theorem dX11_weigh_6 : decode cX11_weigh 6 = .ok (.istore 4, 2) := by decide +kernel
theorem dX11_weigh_8 : decode cX11_weigh 8 = .ok (.iload 4, 2) := by decide +kernel
theorem dX11_weigh_10 : decode cX11_weigh 10 = .ok (.ifCond .ge 9, 3) := by decide +kernel
theorem dX11_weigh_13 : decode cX11_weigh 13 = .ok (.iload 4, 2) := by decide +kernel
theorem dX11_weigh_15 : decode cX11_weigh 15 = .ok (.ineg, 1) := by decide +kernel
theorem dX11_weigh_16 : decode cX11_weigh 16 = .ok (.goto 5, 3) := by decide +kernel
theorem dX11_weigh_19 : decode cX11_weigh 19 = .ok (.iload 4, 2) := by decide +kernel
theorem dX11_weigh_21 : decode cX11_weigh 21 = .ok (.istore 5, 2) := by decide +kernel
theorem dX11_weigh_23 : decode cX11_weigh 23 = .ok (.iload 4, 2) := by decide +kernel
theorem dX11_weigh_25 : decode cX11_weigh 25 = .ok (.ifCond .lt 7, 3) := by decide +kernel
theorem dX11_weigh_28 : decode cX11_weigh 28 = .ok (.iconst 1, 1) := by decide +kernel
theorem dX11_weigh_29 : decode cX11_weigh 29 = .ok (.goto 4, 3) := by decide +kernel
theorem dX11_weigh_32 : decode cX11_weigh 32 = .ok (.iconst 0, 1) := by decide +kernel
theorem dX11_weigh_33 : decode cX11_weigh 33 = .ok (.iload_n 3, 1) := by decide +kernel
theorem dX11_weigh_34 : decode cX11_weigh 34 = .ok (.iconst 1, 1) := by decide +kernel
theorem dX11_weigh_35 : decode cX11_weigh 35 = .ok (.if_icmp .ne 7, 3) := by decide +kernel
theorem dX11_weigh_38 : decode cX11_weigh 38 = .ok (.iconst 1, 1) := by decide +kernel
theorem dX11_weigh_39 : decode cX11_weigh 39 = .ok (.goto 4, 3) := by decide +kernel
theorem dX11_weigh_42 : decode cX11_weigh 42 = .ok (.iconst 0, 1) := by decide +kernel
theorem dX11_weigh_43 : decode cX11_weigh 43 = .ok (.if_icmp .ne 15, 3) := by decide +kernel
theorem dX11_weigh_46 : decode cX11_weigh 46 = .ok (.iload 5, 2) := by decide +kernel
theorem dX11_weigh_48 : decode cX11_weigh 48 = .ok (.aload_n 0, 1) := by decide +kernel
theorem dX11_weigh_49 : decode cX11_weigh 49 = .ok (.getfield 43, 3) := by decide +kernel
theorem dX11_weigh_52 : decode cX11_weigh 52 = .ok (.iload_n 1, 1) := by decide +kernel
theorem dX11_weigh_53 : decode cX11_weigh 53 = .ok (.iaload, 1) := by decide +kernel
theorem dX11_weigh_54 : decode cX11_weigh 54 = .ok (.if_icmp .le 4, 3) := by decide +kernel
theorem dX11_weigh_57 : decode cX11_weigh 57 = .ok (.return_, 1) := by decide +kernel
theorem dX11_weigh_58 : decode cX11_weigh 58 = .ok (.sipush 812, 3) := by decide +kernel
theorem dX11_weigh_61 : decode cX11_weigh 61 = .ok (.iload_n 1, 1) := by decide +kernel
theorem dX11_weigh_62 : decode cX11_weigh 62 = .ok (.imul, 1) := by decide +kernel
theorem dX11_weigh_63 : decode cX11_weigh 63 = .ok (.bipush 9, 2) := by decide +kernel
theorem dX11_weigh_65 : decode cX11_weigh 65 = .ok (.aload_n 0, 1) := by decide +kernel
theorem dX11_weigh_66 : decode cX11_weigh 66 = .ok (.iload_n 1, 1) := by decide +kernel
theorem dX11_weigh_67 : decode cX11_weigh 67 = .ok (.iload_n 2, 1) := by decide +kernel
theorem dX11_weigh_68 : decode cX11_weigh 68 = .ok (.iconst 0, 1) := by decide +kernel
theorem dX11_weigh_69 : decode cX11_weigh 69 = .ok (.invokevirtual 122, 3) := by decide +kernel
theorem dX11_weigh_72 : decode cX11_weigh 72 = .ok (.imul, 1) := by decide +kernel
theorem dX11_weigh_73 : decode cX11_weigh 73 = .ok (.iadd, 1) := by decide +kernel
theorem dX11_weigh_74 : decode cX11_weigh 74 = .ok (.istore 6, 2) := by decide +kernel
theorem dX11_weigh_76 : decode cX11_weigh 76 = .ok (.iconst 0, 1) := by decide +kernel
theorem dX11_weigh_77 : decode cX11_weigh 77 = .ok (.istore 7, 2) := by decide +kernel
theorem dX11_weigh_79 : decode cX11_weigh 79 = .ok (.iload 7, 2) := by decide +kernel
theorem dX11_weigh_81 : decode cX11_weigh 81 = .ok (.aload_n 0, 1) := by decide +kernel
theorem dX11_weigh_82 : decode cX11_weigh 82 = .ok (.getfield 40, 3) := by decide +kernel
theorem dX11_weigh_85 : decode cX11_weigh 85 = .ok (.iload_n 1, 1) := by decide +kernel
theorem dX11_weigh_86 : decode cX11_weigh 86 = .ok (.iaload, 1) := by decide +kernel
theorem dX11_weigh_87 : decode cX11_weigh 87 = .ok (.if_icmp .gt 101, 3) := by decide +kernel
theorem dX11_weigh_90 : decode cX11_weigh 90 = .ok (.iload 7, 2) := by decide +kernel
theorem dX11_weigh_92 : decode cX11_weigh 92 = .ok (.ifCond .ne 7, 3) := by decide +kernel
theorem dX11_weigh_95 : decode cX11_weigh 95 = .ok (.iconst 1, 1) := by decide +kernel
theorem dX11_weigh_96 : decode cX11_weigh 96 = .ok (.goto 24, 3) := by decide +kernel
theorem dX11_weigh_99 : decode cX11_weigh 99 = .ok (.aload_n 0, 1) := by decide +kernel
theorem dX11_weigh_100 : decode cX11_weigh 100 = .ok (.getfield 49, 3) := by decide +kernel
theorem dX11_weigh_103 : decode cX11_weigh 103 = .ok (.sipush 812, 3) := by decide +kernel
theorem dX11_weigh_106 : decode cX11_weigh 106 = .ok (.iload_n 1, 1) := by decide +kernel
theorem dX11_weigh_107 : decode cX11_weigh 107 = .ok (.imul, 1) := by decide +kernel
theorem dX11_weigh_108 : decode cX11_weigh 108 = .ok (.sipush 808, 3) := by decide +kernel
theorem dX11_weigh_111 : decode cX11_weigh 111 = .ok (.iadd, 1) := by decide +kernel
theorem dX11_weigh_112 : decode cX11_weigh 112 = .ok (.iaload, 1) := by decide +kernel
theorem dX11_weigh_113 : decode cX11_weigh 113 = .ok (.iload 7, 2) := by decide +kernel
theorem dX11_weigh_115 : decode cX11_weigh 115 = .ok (.iconst 1, 1) := by decide +kernel
theorem dX11_weigh_116 : decode cX11_weigh 116 = .ok (.isub, 1) := by decide +kernel
theorem dX11_weigh_117 : decode cX11_weigh 117 = .ok (.ishr, 1) := by decide +kernel
theorem dX11_weigh_118 : decode cX11_weigh 118 = .ok (.iconst 1, 1) := by decide +kernel
theorem dX11_weigh_119 : decode cX11_weigh 119 = .ok (.iand, 1) := by decide +kernel
theorem dX11_weigh_120 : decode cX11_weigh 120 = .ok (.istore 8, 2) := by decide +kernel
theorem dX11_weigh_122 : decode cX11_weigh 122 = .ok (.aload_n 0, 1) := by decide +kernel
theorem dX11_weigh_123 : decode cX11_weigh 123 = .ok (.getfield 49, 3) := by decide +kernel
theorem dX11_weigh_126 : decode cX11_weigh 126 = .ok (.iload 6, 2) := by decide +kernel
theorem dX11_weigh_128 : decode cX11_weigh 128 = .ok (.iload 7, 2) := by decide +kernel
theorem dX11_weigh_130 : decode cX11_weigh 130 = .ok (.iadd, 1) := by decide +kernel
theorem dX11_weigh_131 : decode cX11_weigh 131 = .ok (.iaload, 1) := by decide +kernel
theorem dX11_weigh_132 : decode cX11_weigh 132 = .ok (.iload 8, 2) := by decide +kernel
theorem dX11_weigh_134 : decode cX11_weigh 134 = .ok (.iload_n 3, 1) := by decide +kernel
theorem dX11_weigh_135 : decode cX11_weigh 135 = .ok (.if_icmp .ne 7, 3) := by decide +kernel
theorem dX11_weigh_138 : decode cX11_weigh 138 = .ok (.iconst 1, 1) := by decide +kernel
theorem dX11_weigh_139 : decode cX11_weigh 139 = .ok (.goto 4, 3) := by decide +kernel
theorem dX11_weigh_142 : decode cX11_weigh 142 = .ok (.iconst (-1), 1) := by decide +kernel
theorem dX11_weigh_143 : decode cX11_weigh 143 = .ok (.iadd, 1) := by decide +kernel
theorem dX11_weigh_144 : decode cX11_weigh 144 = .ok (.istore 9, 2) := by decide +kernel
theorem dX11_weigh_146 : decode cX11_weigh 146 = .ok (.aload_n 0, 1) := by decide +kernel
theorem dX11_weigh_147 : decode cX11_weigh 147 = .ok (.getfield 49, 3) := by decide +kernel
theorem dX11_weigh_150 : decode cX11_weigh 150 = .ok (.iload 6, 2) := by decide +kernel
theorem dX11_weigh_152 : decode cX11_weigh 152 = .ok (.iload 7, 2) := by decide +kernel
theorem dX11_weigh_154 : decode cX11_weigh 154 = .ok (.iadd, 1) := by decide +kernel
theorem dX11_weigh_155 : decode cX11_weigh 155 = .ok (.iload 9, 2) := by decide +kernel
theorem dX11_weigh_157 : decode cX11_weigh 157 = .ok (.bipush 63, 2) := by decide +kernel
theorem dX11_weigh_159 : decode cX11_weigh 159 = .ok (.if_icmp .le 8, 3) := by decide +kernel
theorem dX11_weigh_162 : decode cX11_weigh 162 = .ok (.bipush 63, 2) := by decide +kernel
theorem dX11_weigh_164 : decode cX11_weigh 164 = .ok (.goto 17, 3) := by decide +kernel
theorem dX11_weigh_167 : decode cX11_weigh 167 = .ok (.iload 9, 2) := by decide +kernel
theorem dX11_weigh_169 : decode cX11_weigh 169 = .ok (.bipush (-64), 2) := by decide +kernel
theorem dX11_weigh_171 : decode cX11_weigh 171 = .ok (.if_icmp .ge 8, 3) := by decide +kernel
theorem dX11_weigh_174 : decode cX11_weigh 174 = .ok (.bipush (-64), 2) := by decide +kernel
theorem dX11_weigh_176 : decode cX11_weigh 176 = .ok (.goto 5, 3) := by decide +kernel
theorem dX11_weigh_179 : decode cX11_weigh 179 = .ok (.iload 9, 2) := by decide +kernel
theorem dX11_weigh_181 : decode cX11_weigh 181 = .ok (.iastore, 1) := by decide +kernel
theorem dX11_weigh_182 : decode cX11_weigh 182 = .ok (.iinc 7 1, 3) := by decide +kernel
theorem dX11_weigh_185 : decode cX11_weigh 185 = .ok (.goto (-106), 3) := by decide +kernel
theorem dX11_weigh_188 : decode cX11_weigh 188 = .ok (.return_, 1) := by decide +kernel
theorem dX11_loop_0 : decode cX11_loop 0 = .ok (.iload_n 2, 1) := by decide +kernel
theorem dX11_loop_1 : decode cX11_loop 1 = .ok (.iconst 1, 1) := by decide +kernel
theorem dX11_loop_2 : decode cX11_loop 2 = .ok (.if_icmp .ne 36, 3) := by decide +kernel
theorem dX11_loop_5 : decode cX11_loop 5 = .ok (.aload_n 0, 1) := by decide +kernel
theorem dX11_loop_6 : decode cX11_loop 6 = .ok (.getfield 49, 3) := by decide +kernel
theorem dX11_loop_9 : decode cX11_loop 9 = .ok (.iload_n 1, 1) := by decide +kernel
theorem dX11_loop_10 : decode cX11_loop 10 = .ok (.aload_n 0, 1) := by decide +kernel
theorem dX11_loop_11 : decode cX11_loop 11 = .ok (.getfield 49, 3) := by decide +kernel
theorem dX11_loop_14 : decode cX11_loop 14 = .ok (.iload_n 1, 1) := by decide +kernel
theorem dX11_loop_15 : decode cX11_loop 15 = .ok (.iaload, 1) := by decide +kernel
theorem dX11_loop_16 : decode cX11_loop 16 = .ok (.sipush 255, 3) := by decide +kernel
theorem dX11_loop_19 : decode cX11_loop 19 = .ok (.if_icmp .ge 14, 3) := by decide +kernel
theorem dX11_loop_22 : decode cX11_loop 22 = .ok (.aload_n 0, 1) := by decide +kernel
theorem dX11_loop_23 : decode cX11_loop 23 = .ok (.getfield 49, 3) := by decide +kernel
theorem dX11_loop_26 : decode cX11_loop 26 = .ok (.iload_n 1, 1) := by decide +kernel
theorem dX11_loop_27 : decode cX11_loop 27 = .ok (.iaload, 1) := by decide +kernel
theorem dX11_loop_28 : decode cX11_loop 28 = .ok (.iconst 1, 1) := by decide +kernel
theorem dX11_loop_29 : decode cX11_loop 29 = .ok (.iadd, 1) := by decide +kernel
theorem dX11_loop_30 : decode cX11_loop 30 = .ok (.goto 6, 3) := by decide +kernel
theorem dX11_loop_33 : decode cX11_loop 33 = .ok (.sipush 255, 3) := by decide +kernel
theorem dX11_loop_36 : decode cX11_loop 36 = .ok (.iastore, 1) := by decide +kernel
theorem dX11_loop_37 : decode cX11_loop 37 = .ok (.return_, 1) := by decide +kernel
theorem dX11_loop_38 : decode cX11_loop 38 = .ok (.aload_n 0, 1) := by decide +kernel
theorem dX11_loop_39 : decode cX11_loop 39 = .ok (.getfield 49, 3) := by decide +kernel
theorem dX11_loop_42 : decode cX11_loop 42 = .ok (.iload_n 1, 1) := by decide +kernel
theorem dX11_loop_43 : decode cX11_loop 43 = .ok (.iaload, 1) := by decide +kernel
theorem dX11_loop_44 : decode cX11_loop 44 = .ok (.aload_n 0, 1) := by decide +kernel
theorem dX11_loop_45 : decode cX11_loop 45 = .ok (.getfield 49, 3) := by decide +kernel
theorem dX11_loop_48 : decode cX11_loop 48 = .ok (.iload_n 1, 1) := by decide +kernel
theorem dX11_loop_49 : decode cX11_loop 49 = .ok (.iconst 1, 1) := by decide +kernel
theorem dX11_loop_50 : decode cX11_loop 50 = .ok (.iadd, 1) := by decide +kernel
theorem dX11_loop_51 : decode cX11_loop 51 = .ok (.iaload, 1) := by decide +kernel
theorem dX11_loop_52 : decode cX11_loop 52 = .ok (.if_icmp .ne 40, 3) := by decide +kernel
theorem dX11_loop_55 : decode cX11_loop 55 = .ok (.aload_n 0, 1) := by decide +kernel
theorem dX11_loop_56 : decode cX11_loop 56 = .ok (.getfield 49, 3) := by decide +kernel
theorem dX11_loop_59 : decode cX11_loop 59 = .ok (.iload_n 1, 1) := by decide +kernel
theorem dX11_loop_60 : decode cX11_loop 60 = .ok (.iconst 2, 1) := by decide +kernel
theorem dX11_loop_61 : decode cX11_loop 61 = .ok (.iadd, 1) := by decide +kernel
theorem dX11_loop_62 : decode cX11_loop 62 = .ok (.aload_n 0, 1) := by decide +kernel
theorem dX11_loop_63 : decode cX11_loop 63 = .ok (.getfield 49, 3) := by decide +kernel
theorem dX11_loop_66 : decode cX11_loop 66 = .ok (.iload_n 1, 1) := by decide +kernel
theorem dX11_loop_67 : decode cX11_loop 67 = .ok (.iconst 2, 1) := by decide +kernel
theorem dX11_loop_68 : decode cX11_loop 68 = .ok (.iadd, 1) := by decide +kernel
theorem dX11_loop_69 : decode cX11_loop 69 = .ok (.iaload, 1) := by decide +kernel
theorem dX11_loop_70 : decode cX11_loop 70 = .ok (.iconst 3, 1) := by decide +kernel
theorem dX11_loop_71 : decode cX11_loop 71 = .ok (.if_icmp .ge 16, 3) := by decide +kernel
theorem dX11_loop_74 : decode cX11_loop 74 = .ok (.aload_n 0, 1) := by decide +kernel
theorem dX11_loop_75 : decode cX11_loop 75 = .ok (.getfield 49, 3) := by decide +kernel
theorem dX11_loop_78 : decode cX11_loop 78 = .ok (.iload_n 1, 1) := by decide +kernel
theorem dX11_loop_79 : decode cX11_loop 79 = .ok (.iconst 2, 1) := by decide +kernel
theorem dX11_loop_80 : decode cX11_loop 80 = .ok (.iadd, 1) := by decide +kernel
theorem dX11_loop_81 : decode cX11_loop 81 = .ok (.iaload, 1) := by decide +kernel
theorem dX11_loop_82 : decode cX11_loop 82 = .ok (.iconst 1, 1) := by decide +kernel
theorem dX11_loop_83 : decode cX11_loop 83 = .ok (.iadd, 1) := by decide +kernel
theorem dX11_loop_84 : decode cX11_loop 84 = .ok (.goto 4, 3) := by decide +kernel
theorem dX11_loop_87 : decode cX11_loop 87 = .ok (.iconst 3, 1) := by decide +kernel
theorem dX11_loop_88 : decode cX11_loop 88 = .ok (.iastore, 1) := by decide +kernel
theorem dX11_loop_89 : decode cX11_loop 89 = .ok (.goto 26, 3) := by decide +kernel
theorem dX11_loop_92 : decode cX11_loop 92 = .ok (.aload_n 0, 1) := by decide +kernel
theorem dX11_loop_93 : decode cX11_loop 93 = .ok (.getfield 49, 3) := by decide +kernel
theorem dX11_loop_96 : decode cX11_loop 96 = .ok (.iload_n 1, 1) := by decide +kernel
theorem dX11_loop_97 : decode cX11_loop 97 = .ok (.iconst 2, 1) := by decide +kernel
theorem dX11_loop_98 : decode cX11_loop 98 = .ok (.iadd, 1) := by decide +kernel
theorem dX11_loop_99 : decode cX11_loop 99 = .ok (.iconst 0, 1) := by decide +kernel
theorem dX11_loop_100 : decode cX11_loop 100 = .ok (.iastore, 1) := by decide +kernel
theorem dX11_loop_101 : decode cX11_loop 101 = .ok (.aload_n 0, 1) := by decide +kernel
theorem dX11_loop_102 : decode cX11_loop 102 = .ok (.getfield 49, 3) := by decide +kernel
theorem dX11_loop_105 : decode cX11_loop 105 = .ok (.iload_n 1, 1) := by decide +kernel
theorem dX11_loop_106 : decode cX11_loop 106 = .ok (.iconst 1, 1) := by decide +kernel
theorem dX11_loop_107 : decode cX11_loop 107 = .ok (.iadd, 1) := by decide +kernel
theorem dX11_loop_108 : decode cX11_loop 108 = .ok (.aload_n 0, 1) := by decide +kernel
theorem dX11_loop_109 : decode cX11_loop 109 = .ok (.getfield 49, 3) := by decide +kernel
theorem dX11_loop_112 : decode cX11_loop 112 = .ok (.iload_n 1, 1) := by decide +kernel
theorem dX11_loop_113 : decode cX11_loop 113 = .ok (.iaload, 1) := by decide +kernel
theorem dX11_loop_114 : decode cX11_loop 114 = .ok (.iastore, 1) := by decide +kernel
theorem dX11_loop_115 : decode cX11_loop 115 = .ok (.aload_n 0, 1) := by decide +kernel
theorem dX11_loop_116 : decode cX11_loop 116 = .ok (.getfield 49, 3) := by decide +kernel
theorem dX11_loop_119 : decode cX11_loop 119 = .ok (.iload_n 1, 1) := by decide +kernel
theorem dX11_loop_120 : decode cX11_loop 120 = .ok (.iconst 0, 1) := by decide +kernel
theorem dX11_loop_121 : decode cX11_loop 121 = .ok (.iastore, 1) := by decide +kernel
theorem dX11_loop_122 : decode cX11_loop 122 = .ok (.return_, 1) := by decide +kernel
theorem dX11_guess_0 : decode cX11_guess 0 = .ok (.aload_n 0, 1) := by decide +kernel
theorem dX11_guess_1 : decode cX11_guess 1 = .ok (.iload_n 1, 1) := by decide +kernel
theorem dX11_guess_2 : decode cX11_guess 2 = .ok (.invokevirtual 107, 3) := by decide +kernel
theorem dX11_guess_5 : decode cX11_guess 5 = .ok (.ifCond .eq 10, 3) := by decide +kernel
theorem dX11_guess_8 : decode cX11_guess 8 = .ok (.iload_n 2, 1) := by decide +kernel
theorem dX11_guess_9 : decode cX11_guess 9 = .ok (.invokestatic 76, 3) := by decide +kernel
theorem dX11_guess_12 : decode cX11_guess 12 = .ok (.ifCond .ne 5, 3) := by decide +kernel
theorem dX11_guess_15 : decode cX11_guess 15 = .ok (.iconst (-1), 1) := by decide +kernel
theorem dX11_guess_16 : decode cX11_guess 16 = .ok (.ireturn, 1) := by decide +kernel
theorem dX11_guess_17 : decode cX11_guess 17 = .ok (.iconst 0, 1) := by decide +kernel
theorem dX11_guess_18 : decode cX11_guess 18 = .ok (.istore_n 3, 1) := by decide +kernel
theorem dX11_guess_19 : decode cX11_guess 19 = .ok (.iload_n 3, 1) := by decide +kernel
theorem dX11_guess_20 : decode cX11_guess 20 = .ok (.iload_n 1, 1) := by decide +kernel
theorem dX11_guess_21 : decode cX11_guess 21 = .ok (.if_icmp .gt 102, 3) := by decide +kernel
theorem dX11_guess_24 : decode cX11_guess 24 = .ok (.aload_n 0, 1) := by decide +kernel
theorem dX11_guess_25 : decode cX11_guess 25 = .ok (.getfield 34, 3) := by decide +kernel
theorem dX11_guess_28 : decode cX11_guess 28 = .ok (.iload_n 3, 1) := by decide +kernel
theorem dX11_guess_29 : decode cX11_guess 29 = .ok (.iaload, 1) := by decide +kernel
theorem dX11_guess_30 : decode cX11_guess 30 = .ok (.bipush 7, 2) := by decide +kernel
theorem dX11_guess_32 : decode cX11_guess 32 = .ok (.if_icmp .ne 7, 3) := by decide +kernel
theorem dX11_guess_35 : decode cX11_guess 35 = .ok (.iconst 1, 1) := by decide +kernel
theorem dX11_guess_36 : decode cX11_guess 36 = .ok (.goto 4, 3) := by decide +kernel
theorem dX11_guess_39 : decode cX11_guess 39 = .ok (.iconst 0, 1) := by decide +kernel
theorem dX11_guess_40 : decode cX11_guess 40 = .ok (.istore 4, 2) := by decide +kernel
theorem dX11_guess_42 : decode cX11_guess 42 = .ok (.aload_n 0, 1) := by decide +kernel
theorem dX11_guess_43 : decode cX11_guess 43 = .ok (.getfield 46, 3) := by decide +kernel
theorem dX11_guess_46 : decode cX11_guess 46 = .ok (.bipush 64, 2) := by decide +kernel
theorem dX11_guess_48 : decode cX11_guess 48 = .ok (.iload_n 3, 1) := by decide +kernel
theorem dX11_guess_49 : decode cX11_guess 49 = .ok (.imul, 1) := by decide +kernel
theorem dX11_guess_50 : decode cX11_guess 50 = .ok (.iload_n 2, 1) := by decide +kernel
theorem dX11_guess_51 : decode cX11_guess 51 = .ok (.iadd, 1) := by decide +kernel
theorem dX11_guess_52 : decode cX11_guess 52 = .ok (.iaload, 1) := by decide +kernel
theorem dX11_guess_53 : decode cX11_guess 53 = .ok (.istore 5, 2) := by decide +kernel
theorem dX11_guess_55 : decode cX11_guess 55 = .ok (.aload_n 0, 1) := by decide +kernel
theorem dX11_guess_56 : decode cX11_guess 56 = .ok (.getfield 62, 3) := by decide +kernel
theorem dX11_guess_59 : decode cX11_guess 59 = .ok (.iload_n 3, 1) := by decide +kernel
theorem dX11_guess_60 : decode cX11_guess 60 = .ok (.iload 5, 2) := by decide +kernel
theorem dX11_guess_62 : decode cX11_guess 62 = .ok (.ifCond .lt 8, 3) := by decide +kernel
theorem dX11_guess_65 : decode cX11_guess 65 = .ok (.iload 5, 2) := by decide +kernel
theorem dX11_guess_67 : decode cX11_guess 67 = .ok (.goto 49, 3) := by decide +kernel
theorem dX11_guess_70 : decode cX11_guess 70 = .ok (.aload_n 0, 1) := by decide +kernel
theorem dX11_guess_71 : decode cX11_guess 71 = .ok (.iload_n 3, 1) := by decide +kernel
theorem dX11_guess_72 : decode cX11_guess 72 = .ok (.iload_n 2, 1) := by decide +kernel
theorem dX11_guess_73 : decode cX11_guess 73 = .ok (.iload 4, 2) := by decide +kernel
theorem dX11_guess_75 : decode cX11_guess 75 = .ok (.ifCond .eq 17, 3) := by decide +kernel
theorem dX11_guess_78 : decode cX11_guess 78 = .ok (.aload_n 0, 1) := by decide +kernel
theorem dX11_guess_79 : decode cX11_guess 79 = .ok (.getfield 62, 3) := by decide +kernel
theorem dX11_guess_82 : decode cX11_guess 82 = .ok (.aload_n 0, 1) := by decide +kernel
theorem dX11_guess_83 : decode cX11_guess 83 = .ok (.getfield 37, 3) := by decide +kernel
theorem dX11_guess_86 : decode cX11_guess 86 = .ok (.iload_n 3, 1) := by decide +kernel
theorem dX11_guess_87 : decode cX11_guess 87 = .ok (.iaload, 1) := by decide +kernel
theorem dX11_guess_88 : decode cX11_guess 88 = .ok (.iaload, 1) := by decide +kernel
theorem dX11_guess_89 : decode cX11_guess 89 = .ok (.goto 4, 3) := by decide +kernel
theorem dX11_guess_92 : decode cX11_guess 92 = .ok (.iconst 0, 1) := by decide +kernel
theorem dX11_guess_93 : decode cX11_guess 93 = .ok (.iload 4, 2) := by decide +kernel
theorem dX11_guess_95 : decode cX11_guess 95 = .ok (.ifCond .eq 17, 3) := by decide +kernel
theorem dX11_guess_98 : decode cX11_guess 98 = .ok (.aload_n 0, 1) := by decide +kernel
theorem dX11_guess_99 : decode cX11_guess 99 = .ok (.getfield 62, 3) := by decide +kernel
theorem dX11_guess_102 : decode cX11_guess 102 = .ok (.aload_n 0, 1) := by decide +kernel
theorem dX11_guess_103 : decode cX11_guess 103 = .ok (.getfield 40, 3) := by decide +kernel
theorem dX11_guess_106 : decode cX11_guess 106 = .ok (.iload_n 3, 1) := by decide +kernel
theorem dX11_guess_107 : decode cX11_guess 107 = .ok (.iaload, 1) := by decide +kernel
theorem dX11_guess_108 : decode cX11_guess 108 = .ok (.iaload, 1) := by decide +kernel
theorem dX11_guess_109 : decode cX11_guess 109 = .ok (.goto 4, 3) := by decide +kernel
theorem dX11_guess_112 : decode cX11_guess 112 = .ok (.iconst 0, 1) := by decide +kernel
theorem dX11_guess_113 : decode cX11_guess 113 = .ok (.invokevirtual 135, 3) := by decide +kernel
theorem dX11_guess_116 : decode cX11_guess 116 = .ok (.iastore, 1) := by decide +kernel
theorem dX11_guess_117 : decode cX11_guess 117 = .ok (.iinc 3 1, 3) := by decide +kernel
theorem dX11_guess_120 : decode cX11_guess 120 = .ok (.goto (-101), 3) := by decide +kernel
theorem dX11_guess_123 : decode cX11_guess 123 = .ok (.aload_n 0, 1) := by decide +kernel
theorem dX11_guess_124 : decode cX11_guess 124 = .ok (.getfield 62, 3) := by decide +kernel
theorem dX11_guess_127 : decode cX11_guess 127 = .ok (.iload_n 1, 1) := by decide +kernel
theorem dX11_guess_128 : decode cX11_guess 128 = .ok (.iaload, 1) := by decide +kernel
theorem dX11_guess_129 : decode cX11_guess 129 = .ok (.ireturn, 1) := by decide +kernel
theorem dX11_hint_0 : decode cX11_hint 0 = .ok (.aload_n 0, 1) := by decide +kernel
theorem dX11_hint_1 : decode cX11_hint 1 = .ok (.iload_n 1, 1) := by decide +kernel
theorem dX11_hint_2 : decode cX11_hint 2 = .ok (.invokevirtual 107, 3) := by decide +kernel
theorem dX11_hint_5 : decode cX11_hint 5 = .ok (.ifCond .eq 10, 3) := by decide +kernel
theorem dX11_hint_8 : decode cX11_hint 8 = .ok (.iload_n 2, 1) := by decide +kernel
theorem dX11_hint_9 : decode cX11_hint 9 = .ok (.invokestatic 76, 3) := by decide +kernel
theorem dX11_hint_12 : decode cX11_hint 12 = .ok (.ifCond .ne 5, 3) := by decide +kernel
theorem dX11_hint_15 : decode cX11_hint 15 = .ok (.iconst (-1), 1) := by decide +kernel
theorem dX11_hint_16 : decode cX11_hint 16 = .ok (.ireturn, 1) := by decide +kernel
theorem dX11_hint_17 : decode cX11_hint 17 = .ok (.iload_n 3, 1) := by decide +kernel
theorem dX11_hint_18 : decode cX11_hint 18 = .ok (.iconst (-1), 1) := by decide +kernel
theorem dX11_hint_19 : decode cX11_hint 19 = .ok (.iconst 1, 1) := by decide +kernel
theorem dX11_hint_20 : decode cX11_hint 20 = .ok (.invokestatic 72, 3) := by decide +kernel
theorem dX11_hint_23 : decode cX11_hint 23 = .ok (.ifCond .ne 6, 3) := by decide +kernel
theorem dX11_hint_26 : decode cX11_hint 26 = .ok (.bipush (-2), 2) := by decide +kernel
theorem dX11_hint_28 : decode cX11_hint 28 = .ok (.ireturn, 1) := by decide +kernel
theorem dX11_hint_29 : decode cX11_hint 29 = .ok (.aload_n 0, 1) := by decide +kernel
theorem dX11_hint_30 : decode cX11_hint 30 = .ok (.getfield 46, 3) := by decide +kernel
theorem dX11_hint_33 : decode cX11_hint 33 = .ok (.bipush 64, 2) := by decide +kernel
theorem dX11_hint_35 : decode cX11_hint 35 = .ok (.iload_n 1, 1) := by decide +kernel
theorem dX11_hint_36 : decode cX11_hint 36 = .ok (.imul, 1) := by decide +kernel
theorem dX11_hint_37 : decode cX11_hint 37 = .ok (.iload_n 2, 1) := by decide +kernel
theorem dX11_hint_38 : decode cX11_hint 38 = .ok (.iadd, 1) := by decide +kernel
theorem dX11_hint_39 : decode cX11_hint 39 = .ok (.iaload, 1) := by decide +kernel
theorem dX11_hint_40 : decode cX11_hint 40 = .ok (.istore 4, 2) := by decide +kernel
theorem dX11_hint_42 : decode cX11_hint 42 = .ok (.aload_n 0, 1) := by decide +kernel
theorem dX11_hint_43 : decode cX11_hint 43 = .ok (.getfield 46, 3) := by decide +kernel
theorem dX11_hint_46 : decode cX11_hint 46 = .ok (.bipush 64, 2) := by decide +kernel
theorem dX11_hint_48 : decode cX11_hint 48 = .ok (.iload_n 1, 1) := by decide +kernel
theorem dX11_hint_49 : decode cX11_hint 49 = .ok (.imul, 1) := by decide +kernel
theorem dX11_hint_50 : decode cX11_hint 50 = .ok (.iload_n 2, 1) := by decide +kernel
theorem dX11_hint_51 : decode cX11_hint 51 = .ok (.iadd, 1) := by decide +kernel
theorem dX11_hint_52 : decode cX11_hint 52 = .ok (.iload_n 3, 1) := by decide +kernel
theorem dX11_hint_53 : decode cX11_hint 53 = .ok (.iastore, 1) := by decide +kernel
theorem dX11_hint_54 : decode cX11_hint 54 = .ok (.iload 4, 2) := by decide +kernel
theorem dX11_hint_56 : decode cX11_hint 56 = .ok (.ireturn, 1) := by decide +kernel
theorem dX11_times_0 : decode cX11_times 0 = .ok (.iconst 0, 1) := by decide +kernel
theorem dX11_times_1 : decode cX11_times 1 = .ok (.istore_n 3, 1) := by decide +kernel
theorem dX11_times_2 : decode cX11_times 2 = .ok (.iconst 0, 1) := by decide +kernel
theorem dX11_times_3 : decode cX11_times 3 = .ok (.istore 4, 2) := by decide +kernel
theorem dX11_times_5 : decode cX11_times 5 = .ok (.iload 4, 2) := by decide +kernel
theorem dX11_times_7 : decode cX11_times 7 = .ok (.aload_n 0, 1) := by decide +kernel
theorem dX11_times_8 : decode cX11_times 8 = .ok (.getfield 101, 3) := by decide +kernel
theorem dX11_times_11 : decode cX11_times 11 = .ok (.if_icmp .ge 43, 3) := by decide +kernel
theorem dX11_times_14 : decode cX11_times 14 = .ok (.iload_n 3, 1) := by decide +kernel
theorem dX11_times_15 : decode cX11_times 15 = .ok (.aload_n 0, 1) := by decide +kernel
theorem dX11_times_16 : decode cX11_times 16 = .ok (.getfield 28, 3) := by decide +kernel
theorem dX11_times_19 : decode cX11_times 19 = .ok (.iload 4, 2) := by decide +kernel
theorem dX11_times_21 : decode cX11_times 21 = .ok (.iaload, 1) := by decide +kernel
theorem dX11_times_22 : decode cX11_times 22 = .ok (.iload_n 1, 1) := by decide +kernel
theorem dX11_times_23 : decode cX11_times 23 = .ok (.if_icmp .ne 22, 3) := by decide +kernel
theorem dX11_times_26 : decode cX11_times 26 = .ok (.iload_n 2, 1) := by decide +kernel
theorem dX11_times_27 : decode cX11_times 27 = .ok (.ifCond .lt 14, 3) := by decide +kernel
theorem dX11_times_30 : decode cX11_times 30 = .ok (.aload_n 0, 1) := by decide +kernel
theorem dX11_times_31 : decode cX11_times 31 = .ok (.getfield 31, 3) := by decide +kernel
theorem dX11_times_34 : decode cX11_times 34 = .ok (.iload 4, 2) := by decide +kernel
theorem dX11_times_36 : decode cX11_times 36 = .ok (.iaload, 1) := by decide +kernel
theorem dX11_times_37 : decode cX11_times 37 = .ok (.iload_n 2, 1) := by decide +kernel
theorem dX11_times_38 : decode cX11_times 38 = .ok (.if_icmp .ne 7, 3) := by decide +kernel
theorem dX11_times_41 : decode cX11_times 41 = .ok (.iconst 1, 1) := by decide +kernel
theorem dX11_times_42 : decode cX11_times 42 = .ok (.goto 4, 3) := by decide +kernel
theorem dX11_times_45 : decode cX11_times 45 = .ok (.iconst 0, 1) := by decide +kernel
theorem dX11_times_46 : decode cX11_times 46 = .ok (.iadd, 1) := by decide +kernel
theorem dX11_times_47 : decode cX11_times 47 = .ok (.istore_n 3, 1) := by decide +kernel
theorem dX11_times_48 : decode cX11_times 48 = .ok (.iinc 4 1, 3) := by decide +kernel
theorem dX11_times_51 : decode cX11_times 51 = .ok (.goto (-46), 3) := by decide +kernel
theorem dX11_times_54 : decode cX11_times 54 = .ok (.iload_n 3, 1) := by decide +kernel
theorem dX11_times_55 : decode cX11_times 55 = .ok (.ireturn, 1) := by decide +kernel
theorem dX11_profile_0 : decode cX11_profile 0 = .ok (.aload_n 0, 1) := by decide +kernel
theorem dX11_profile_1 : decode cX11_profile 1 = .ok (.iload_n 1, 1) := by decide +kernel
theorem dX11_profile_2 : decode cX11_profile 2 = .ok (.invokevirtual 107, 3) := by decide +kernel
theorem dX11_profile_5 : decode cX11_profile 5 = .ok (.ifCond .ne 5, 3) := by decide +kernel
theorem dX11_profile_8 : decode cX11_profile 8 = .ok (.iconst (-1), 1) := by decide +kernel
theorem dX11_profile_9 : decode cX11_profile 9 = .ok (.ireturn, 1) := by decide +kernel
theorem dX11_profile_10 : decode cX11_profile 10 = .ok (.iconst 0, 1) := by decide +kernel
theorem dX11_profile_11 : decode cX11_profile 11 = .ok (.istore_n 2, 1) := by decide +kernel
theorem dX11_profile_12 : decode cX11_profile 12 = .ok (.iconst 0, 1) := by decide +kernel
theorem dX11_profile_13 : decode cX11_profile 13 = .ok (.istore_n 3, 1) := by decide +kernel
theorem dX11_profile_14 : decode cX11_profile 14 = .ok (.iload_n 3, 1) := by decide +kernel
theorem dX11_profile_15 : decode cX11_profile 15 = .ok (.bipush 64, 2) := by decide +kernel
theorem dX11_profile_17 : decode cX11_profile 17 = .ok (.if_icmp .ge 76, 3) := by decide +kernel
theorem dX11_profile_20 : decode cX11_profile 20 = .ok (.aload_n 0, 1) := by decide +kernel
theorem dX11_profile_21 : decode cX11_profile 21 = .ok (.iload_n 3, 1) := by decide +kernel
theorem dX11_profile_22 : decode cX11_profile 22 = .ok (.iconst 1, 1) := by decide +kernel
theorem dX11_profile_23 : decode cX11_profile 23 = .ok (.invokevirtual 149, 3) := by decide +kernel
theorem dX11_profile_26 : decode cX11_profile 26 = .ok (.istore 4, 2) := by decide +kernel
theorem dX11_profile_28 : decode cX11_profile 28 = .ok (.aload_n 0, 1) := by decide +kernel
theorem dX11_profile_29 : decode cX11_profile 29 = .ok (.iload_n 3, 1) := by decide +kernel
theorem dX11_profile_30 : decode cX11_profile 30 = .ok (.iconst 0, 1) := by decide +kernel
theorem dX11_profile_31 : decode cX11_profile 31 = .ok (.invokevirtual 149, 3) := by decide +kernel
theorem dX11_profile_34 : decode cX11_profile 34 = .ok (.istore 5, 2) := by decide +kernel
theorem dX11_profile_36 : decode cX11_profile 36 = .ok (.aload_n 0, 1) := by decide +kernel
theorem dX11_profile_37 : decode cX11_profile 37 = .ok (.getfield 46, 3) := by decide +kernel
theorem dX11_profile_40 : decode cX11_profile 40 = .ok (.bipush 64, 2) := by decide +kernel
theorem dX11_profile_42 : decode cX11_profile 42 = .ok (.iload_n 1, 1) := by decide +kernel
theorem dX11_profile_43 : decode cX11_profile 43 = .ok (.imul, 1) := by decide +kernel
theorem dX11_profile_44 : decode cX11_profile 44 = .ok (.iload_n 3, 1) := by decide +kernel
theorem dX11_profile_45 : decode cX11_profile 45 = .ok (.iadd, 1) := by decide +kernel
theorem dX11_profile_46 : decode cX11_profile 46 = .ok (.iload 4, 2) := by decide +kernel
theorem dX11_profile_48 : decode cX11_profile 48 = .ok (.iload 5, 2) := by decide +kernel
theorem dX11_profile_50 : decode cX11_profile 50 = .ok (.iadd, 1) := by decide +kernel
theorem dX11_profile_51 : decode cX11_profile 51 = .ok (.ifCond .ne 7, 3) := by decide +kernel
theorem dX11_profile_54 : decode cX11_profile 54 = .ok (.iconst (-1), 1) := by decide +kernel
theorem dX11_profile_55 : decode cX11_profile 55 = .ok (.goto 15, 3) := by decide +kernel
theorem dX11_profile_58 : decode cX11_profile 58 = .ok (.iload 4, 2) := by decide +kernel
theorem dX11_profile_60 : decode cX11_profile 60 = .ok (.iload 5, 2) := by decide +kernel
theorem dX11_profile_62 : decode cX11_profile 62 = .ok (.if_icmp .lt 7, 3) := by decide +kernel
theorem dX11_profile_65 : decode cX11_profile 65 = .ok (.iconst 1, 1) := by decide +kernel
theorem dX11_profile_66 : decode cX11_profile 66 = .ok (.goto 4, 3) := by decide +kernel
theorem dX11_profile_69 : decode cX11_profile 69 = .ok (.iconst 0, 1) := by decide +kernel
theorem dX11_profile_70 : decode cX11_profile 70 = .ok (.iastore, 1) := by decide +kernel
theorem dX11_profile_71 : decode cX11_profile 71 = .ok (.iload_n 2, 1) := by decide +kernel
theorem dX11_profile_72 : decode cX11_profile 72 = .ok (.iload 4, 2) := by decide +kernel
theorem dX11_profile_74 : decode cX11_profile 74 = .ok (.iload 5, 2) := by decide +kernel
theorem dX11_profile_76 : decode cX11_profile 76 = .ok (.iadd, 1) := by decide +kernel
theorem dX11_profile_77 : decode cX11_profile 77 = .ok (.ifCond .le 7, 3) := by decide +kernel
theorem dX11_profile_80 : decode cX11_profile 80 = .ok (.iconst 1, 1) := by decide +kernel
theorem dX11_profile_81 : decode cX11_profile 81 = .ok (.goto 4, 3) := by decide +kernel
theorem dX11_profile_84 : decode cX11_profile 84 = .ok (.iconst 0, 1) := by decide +kernel
theorem dX11_profile_85 : decode cX11_profile 85 = .ok (.iadd, 1) := by decide +kernel
theorem dX11_profile_86 : decode cX11_profile 86 = .ok (.istore_n 2, 1) := by decide +kernel
theorem dX11_profile_87 : decode cX11_profile 87 = .ok (.iinc 3 1, 3) := by decide +kernel
theorem dX11_profile_90 : decode cX11_profile 90 = .ok (.goto (-76), 3) := by decide +kernel
theorem dX11_profile_93 : decode cX11_profile 93 = .ok (.iload_n 2, 1) := by decide +kernel
theorem dX11_profile_94 : decode cX11_profile 94 = .ok (.ireturn, 1) := by decide +kernel
theorem dX11_missesOf_0 : decode cX11_missesOf 0 = .ok (.iconst 0, 1) := by decide +kernel
theorem dX11_missesOf_1 : decode cX11_missesOf 1 = .ok (.istore_n 2, 1) := by decide +kernel
theorem dX11_missesOf_2 : decode cX11_missesOf 2 = .ok (.iconst 0, 1) := by decide +kernel
theorem dX11_missesOf_3 : decode cX11_missesOf 3 = .ok (.istore_n 3, 1) := by decide +kernel
theorem dX11_missesOf_4 : decode cX11_missesOf 4 = .ok (.iload_n 3, 1) := by decide +kernel
theorem dX11_missesOf_5 : decode cX11_missesOf 5 = .ok (.bipush 64, 2) := by decide +kernel
theorem dX11_missesOf_7 : decode cX11_missesOf 7 = .ok (.if_icmp .ge 28, 3) := by decide +kernel
theorem dX11_missesOf_10 : decode cX11_missesOf 10 = .ok (.iload_n 2, 1) := by decide +kernel
theorem dX11_missesOf_11 : decode cX11_missesOf 11 = .ok (.aload_n 0, 1) := by decide +kernel
theorem dX11_missesOf_12 : decode cX11_missesOf 12 = .ok (.getfield 49, 3) := by decide +kernel
theorem dX11_missesOf_15 : decode cX11_missesOf 15 = .ok (.sipush 812, 3) := by decide +kernel
theorem dX11_missesOf_18 : decode cX11_missesOf 18 = .ok (.iload_n 1, 1) := by decide +kernel
theorem dX11_missesOf_19 : decode cX11_missesOf 19 = .ok (.imul, 1) := by decide +kernel
theorem dX11_missesOf_20 : decode cX11_missesOf 20 = .ok (.sipush 448, 3) := by decide +kernel
theorem dX11_missesOf_23 : decode cX11_missesOf 23 = .ok (.iadd, 1) := by decide +kernel
theorem dX11_missesOf_24 : decode cX11_missesOf 24 = .ok (.iload_n 3, 1) := by decide +kernel
theorem dX11_missesOf_25 : decode cX11_missesOf 25 = .ok (.iadd, 1) := by decide +kernel
theorem dX11_missesOf_26 : decode cX11_missesOf 26 = .ok (.iaload, 1) := by decide +kernel
theorem dX11_missesOf_27 : decode cX11_missesOf 27 = .ok (.iadd, 1) := by decide +kernel
theorem dX11_missesOf_28 : decode cX11_missesOf 28 = .ok (.istore_n 2, 1) := by decide +kernel
theorem dX11_missesOf_29 : decode cX11_missesOf 29 = .ok (.iinc 3 1, 3) := by decide +kernel
theorem dX11_missesOf_32 : decode cX11_missesOf 32 = .ok (.goto (-28), 3) := by decide +kernel
theorem dX11_missesOf_35 : decode cX11_missesOf 35 = .ok (.iload_n 2, 1) := by decide +kernel
theorem dX11_missesOf_36 : decode cX11_missesOf 36 = .ok (.ireturn, 1) := by decide +kernel
theorem dX11_misses_0 : decode cX11_misses 0 = .ok (.aload_n 0, 1) := by decide +kernel
theorem dX11_misses_1 : decode cX11_misses 1 = .ok (.iload_n 1, 1) := by decide +kernel
theorem dX11_misses_2 : decode cX11_misses 2 = .ok (.invokevirtual 107, 3) := by decide +kernel
theorem dX11_misses_5 : decode cX11_misses 5 = .ok (.ifCond .eq 13, 3) := by decide +kernel
theorem dX11_misses_8 : decode cX11_misses 8 = .ok (.iload_n 2, 1) := by decide +kernel
theorem dX11_misses_9 : decode cX11_misses 9 = .ok (.iconst (-1), 1) := by decide +kernel
theorem dX11_misses_10 : decode cX11_misses 10 = .ok (.bipush 63, 2) := by decide +kernel
theorem dX11_misses_12 : decode cX11_misses 12 = .ok (.invokestatic 72, 3) := by decide +kernel
theorem dX11_misses_15 : decode cX11_misses 15 = .ok (.ifCond .ne 5, 3) := by decide +kernel
theorem dX11_misses_18 : decode cX11_misses 18 = .ok (.iconst (-1), 1) := by decide +kernel
theorem dX11_misses_19 : decode cX11_misses 19 = .ok (.ireturn, 1) := by decide +kernel
theorem dX11_misses_20 : decode cX11_misses 20 = .ok (.iload_n 2, 1) := by decide +kernel
theorem dX11_misses_21 : decode cX11_misses 21 = .ok (.ifCond .ge 11, 3) := by decide +kernel
theorem dX11_misses_24 : decode cX11_misses 24 = .ok (.aload_n 0, 1) := by decide +kernel
theorem dX11_misses_25 : decode cX11_misses 25 = .ok (.iload_n 1, 1) := by decide +kernel
theorem dX11_misses_26 : decode cX11_misses 26 = .ok (.invokevirtual 152, 3) := by decide +kernel
theorem dX11_misses_29 : decode cX11_misses 29 = .ok (.goto 19, 3) := by decide +kernel
theorem dX11_misses_32 : decode cX11_misses 32 = .ok (.aload_n 0, 1) := by decide +kernel
theorem dX11_misses_33 : decode cX11_misses 33 = .ok (.getfield 49, 3) := by decide +kernel
theorem dX11_misses_36 : decode cX11_misses 36 = .ok (.sipush 812, 3) := by decide +kernel
theorem dX11_misses_39 : decode cX11_misses 39 = .ok (.iload_n 1, 1) := by decide +kernel
theorem dX11_misses_40 : decode cX11_misses 40 = .ok (.imul, 1) := by decide +kernel
theorem dX11_misses_41 : decode cX11_misses 41 = .ok (.sipush 448, 3) := by decide +kernel
theorem dX11_misses_44 : decode cX11_misses 44 = .ok (.iadd, 1) := by decide +kernel
theorem dX11_misses_45 : decode cX11_misses 45 = .ok (.iload_n 2, 1) := by decide +kernel
theorem dX11_misses_46 : decode cX11_misses 46 = .ok (.iadd, 1) := by decide +kernel
theorem dX11_misses_47 : decode cX11_misses 47 = .ok (.iaload, 1) := by decide +kernel
theorem dX11_misses_48 : decode cX11_misses 48 = .ok (.ireturn, 1) := by decide +kernel
theorem dX11_asked_0 : decode cX11_asked 0 = .ok (.aload_n 0, 1) := by decide +kernel
theorem dX11_asked_1 : decode cX11_asked 1 = .ok (.iload_n 1, 1) := by decide +kernel
theorem dX11_asked_2 : decode cX11_asked 2 = .ok (.invokevirtual 107, 3) := by decide +kernel
theorem dX11_asked_5 : decode cX11_asked 5 = .ok (.ifCond .eq 20, 3) := by decide +kernel
theorem dX11_asked_8 : decode cX11_asked 8 = .ok (.aload_n 0, 1) := by decide +kernel
theorem dX11_asked_9 : decode cX11_asked 9 = .ok (.getfield 49, 3) := by decide +kernel
theorem dX11_asked_12 : decode cX11_asked 12 = .ok (.sipush 812, 3) := by decide +kernel
theorem dX11_asked_15 : decode cX11_asked 15 = .ok (.iload_n 1, 1) := by decide +kernel
theorem dX11_asked_16 : decode cX11_asked 16 = .ok (.imul, 1) := by decide +kernel
theorem dX11_asked_17 : decode cX11_asked 17 = .ok (.sipush 809, 3) := by decide +kernel
theorem dX11_asked_20 : decode cX11_asked 20 = .ok (.iadd, 1) := by decide +kernel
theorem dX11_asked_21 : decode cX11_asked 21 = .ok (.iaload, 1) := by decide +kernel
theorem dX11_asked_22 : decode cX11_asked 22 = .ok (.goto 4, 3) := by decide +kernel
theorem dX11_asked_25 : decode cX11_asked 25 = .ok (.iconst (-1), 1) := by decide +kernel
theorem dX11_asked_26 : decode cX11_asked 26 = .ok (.ireturn, 1) := by decide +kernel
theorem dX11_clashes_0 : decode cX11_clashes 0 = .ok (.aload_n 0, 1) := by decide +kernel
theorem dX11_clashes_1 : decode cX11_clashes 1 = .ok (.iload_n 1, 1) := by decide +kernel
theorem dX11_clashes_2 : decode cX11_clashes 2 = .ok (.invokevirtual 107, 3) := by decide +kernel
theorem dX11_clashes_5 : decode cX11_clashes 5 = .ok (.ifCond .ne 7, 3) := by decide +kernel
theorem dX11_clashes_8 : decode cX11_clashes 8 = .ok (.iconst (-1), 1) := by decide +kernel
theorem dX11_clashes_9 : decode cX11_clashes 9 = .ok (.goto 30, 3) := by decide +kernel
theorem dX11_clashes_12 : decode cX11_clashes 12 = .ok (.aload_n 0, 1) := by decide +kernel
theorem dX11_clashes_13 : decode cX11_clashes 13 = .ok (.iload_n 1, 1) := by decide +kernel
theorem dX11_clashes_14 : decode cX11_clashes 14 = .ok (.invokevirtual 129, 3) := by decide +kernel
theorem dX11_clashes_17 : decode cX11_clashes 17 = .ok (.ifCond .eq 20, 3) := by decide +kernel
theorem dX11_clashes_20 : decode cX11_clashes 20 = .ok (.aload_n 0, 1) := by decide +kernel
theorem dX11_clashes_21 : decode cX11_clashes 21 = .ok (.getfield 49, 3) := by decide +kernel
theorem dX11_clashes_24 : decode cX11_clashes 24 = .ok (.sipush 812, 3) := by decide +kernel
theorem dX11_clashes_27 : decode cX11_clashes 27 = .ok (.iload_n 1, 1) := by decide +kernel
theorem dX11_clashes_28 : decode cX11_clashes 28 = .ok (.imul, 1) := by decide +kernel
theorem dX11_clashes_29 : decode cX11_clashes 29 = .ok (.sipush 810, 3) := by decide +kernel
theorem dX11_clashes_32 : decode cX11_clashes 32 = .ok (.iadd, 1) := by decide +kernel
theorem dX11_clashes_33 : decode cX11_clashes 33 = .ok (.iaload, 1) := by decide +kernel
theorem dX11_clashes_34 : decode cX11_clashes 34 = .ok (.goto 5, 3) := by decide +kernel
theorem dX11_clashes_37 : decode cX11_clashes 37 = .ok (.bipush (-5), 2) := by decide +kernel
theorem dX11_clashes_39 : decode cX11_clashes 39 = .ok (.ireturn, 1) := by decide +kernel
theorem dX11_pair_0 : decode cX11_pair 0 = .ok (.aload_n 0, 1) := by decide +kernel
theorem dX11_pair_1 : decode cX11_pair 1 = .ok (.iload_n 1, 1) := by decide +kernel
theorem dX11_pair_2 : decode cX11_pair 2 = .ok (.invokevirtual 107, 3) := by decide +kernel
theorem dX11_pair_5 : decode cX11_pair 5 = .ok (.ifCond .ne 5, 3) := by decide +kernel
theorem dX11_pair_8 : decode cX11_pair 8 = .ok (.iconst (-1), 1) := by decide +kernel
theorem dX11_pair_9 : decode cX11_pair 9 = .ok (.ireturn, 1) := by decide +kernel
theorem dX11_pair_10 : decode cX11_pair 10 = .ok (.aload_n 0, 1) := by decide +kernel
theorem dX11_pair_11 : decode cX11_pair 11 = .ok (.iload_n 1, 1) := by decide +kernel
theorem dX11_pair_12 : decode cX11_pair 12 = .ok (.invokevirtual 129, 3) := by decide +kernel
theorem dX11_pair_15 : decode cX11_pair 15 = .ok (.ifCond .ne 6, 3) := by decide +kernel
theorem dX11_pair_18 : decode cX11_pair 18 = .ok (.bipush (-5), 2) := by decide +kernel
theorem dX11_pair_20 : decode cX11_pair 20 = .ok (.ireturn, 1) := by decide +kernel
theorem dX11_pair_21 : decode cX11_pair 21 = .ok (.iload_n 2, 1) := by decide +kernel
theorem dX11_pair_22 : decode cX11_pair 22 = .ok (.iconst 0, 1) := by decide +kernel
theorem dX11_pair_23 : decode cX11_pair 23 = .ok (.aload_n 0, 1) := by decide +kernel
theorem dX11_pair_24 : decode cX11_pair 24 = .ok (.getfield 49, 3) := by decide +kernel
theorem dX11_pair_27 : decode cX11_pair 27 = .ok (.sipush 812, 3) := by decide +kernel
theorem dX11_pair_30 : decode cX11_pair 30 = .ok (.iload_n 1, 1) := by decide +kernel
theorem dX11_pair_31 : decode cX11_pair 31 = .ok (.imul, 1) := by decide +kernel
theorem dX11_pair_32 : decode cX11_pair 32 = .ok (.sipush 811, 3) := by decide +kernel
theorem dX11_pair_35 : decode cX11_pair 35 = .ok (.iadd, 1) := by decide +kernel
theorem dX11_pair_36 : decode cX11_pair 36 = .ok (.iaload, 1) := by decide +kernel
theorem dX11_pair_37 : decode cX11_pair 37 = .ok (.iconst 1, 1) := by decide +kernel
theorem dX11_pair_38 : decode cX11_pair 38 = .ok (.isub, 1) := by decide +kernel
theorem dX11_pair_39 : decode cX11_pair 39 = .ok (.invokestatic 72, 3) := by decide +kernel
theorem dX11_pair_42 : decode cX11_pair 42 = .ok (.ifCond .eq 22, 3) := by decide +kernel
theorem dX11_pair_45 : decode cX11_pair 45 = .ok (.aload_n 0, 1) := by decide +kernel
theorem dX11_pair_46 : decode cX11_pair 46 = .ok (.getfield 49, 3) := by decide +kernel
theorem dX11_pair_49 : decode cX11_pair 49 = .ok (.sipush 812, 3) := by decide +kernel
theorem dX11_pair_52 : decode cX11_pair 52 = .ok (.iload_n 1, 1) := by decide +kernel
theorem dX11_pair_53 : decode cX11_pair 53 = .ok (.imul, 1) := by decide +kernel
theorem dX11_pair_54 : decode cX11_pair 54 = .ok (.sipush 768, 3) := by decide +kernel
theorem dX11_pair_57 : decode cX11_pair 57 = .ok (.iadd, 1) := by decide +kernel
theorem dX11_pair_58 : decode cX11_pair 58 = .ok (.iload_n 2, 1) := by decide +kernel
theorem dX11_pair_59 : decode cX11_pair 59 = .ok (.iadd, 1) := by decide +kernel
theorem dX11_pair_60 : decode cX11_pair 60 = .ok (.iaload, 1) := by decide +kernel
theorem dX11_pair_61 : decode cX11_pair 61 = .ok (.goto 5, 3) := by decide +kernel
theorem dX11_pair_64 : decode cX11_pair 64 = .ok (.bipush (-6), 2) := by decide +kernel
theorem dX11_pair_66 : decode cX11_pair 66 = .ok (.ireturn, 1) := by decide +kernel
theorem dX11_inside_0 : decode cX11_inside 0 = .ok (.aload_n 0, 1) := by decide +kernel
theorem dX11_inside_1 : decode cX11_inside 1 = .ok (.iload_n 1, 1) := by decide +kernel
theorem dX11_inside_2 : decode cX11_inside 2 = .ok (.invokevirtual 107, 3) := by decide +kernel
theorem dX11_inside_5 : decode cX11_inside 5 = .ok (.ifCond .ne 7, 3) := by decide +kernel
theorem dX11_inside_8 : decode cX11_inside 8 = .ok (.sipush (-1000), 3) := by decide +kernel
theorem dX11_inside_11 : decode cX11_inside 11 = .ok (.ireturn, 1) := by decide +kernel
theorem dX11_inside_12 : decode cX11_inside 12 = .ok (.sipush 812, 3) := by decide +kernel
theorem dX11_inside_15 : decode cX11_inside 15 = .ok (.iload_n 1, 1) := by decide +kernel
theorem dX11_inside_16 : decode cX11_inside 16 = .ok (.imul, 1) := by decide +kernel
theorem dX11_inside_17 : decode cX11_inside 17 = .ok (.istore 4, 2) := by decide +kernel
theorem dX11_inside_19 : decode cX11_inside 19 = .ok (.aload_n 0, 1) := by decide +kernel
theorem dX11_inside_20 : decode cX11_inside 20 = .ok (.getfield 34, 3) := by decide +kernel
theorem dX11_inside_23 : decode cX11_inside 23 = .ok (.iload_n 1, 1) := by decide +kernel
theorem dX11_inside_24 : decode cX11_inside 24 = .ok (.iaload, 1) := by decide +kernel
theorem dX11_inside_25 : decode cX11_inside 25 = .ok (.tableswitch 227 0 7 #[47, 227, 227, 227, 51, 100, 153, 189], 47) := by decide +kernel
theorem dX11_inside_72 : decode cX11_inside 72 = .ok (.sipush (-1001), 3) := by decide +kernel
theorem dX11_inside_75 : decode cX11_inside 75 = .ok (.ireturn, 1) := by decide +kernel
theorem dX11_inside_76 : decode cX11_inside 76 = .ok (.iload_n 2, 1) := by decide +kernel
theorem dX11_inside_77 : decode cX11_inside 77 = .ok (.iconst 0, 1) := by decide +kernel
theorem dX11_inside_78 : decode cX11_inside 78 = .ok (.iconst 2, 1) := by decide +kernel
theorem dX11_inside_79 : decode cX11_inside 79 = .ok (.invokestatic 72, 3) := by decide +kernel
theorem dX11_inside_82 : decode cX11_inside 82 = .ok (.ifCond .eq 39, 3) := by decide +kernel
theorem dX11_inside_85 : decode cX11_inside 85 = .ok (.iload_n 3, 1) := by decide +kernel
theorem dX11_inside_86 : decode cX11_inside 86 = .ok (.iconst 0, 1) := by decide +kernel
theorem dX11_inside_87 : decode cX11_inside 87 = .ok (.iconst 1, 1) := by decide +kernel
theorem dX11_inside_88 : decode cX11_inside 88 = .ok (.aload_n 0, 1) := by decide +kernel
theorem dX11_inside_89 : decode cX11_inside 89 = .ok (.getfield 37, 3) := by decide +kernel
theorem dX11_inside_92 : decode cX11_inside 92 = .ok (.iload_n 1, 1) := by decide +kernel
theorem dX11_inside_93 : decode cX11_inside 93 = .ok (.iaload, 1) := by decide +kernel
theorem dX11_inside_94 : decode cX11_inside 94 = .ok (.ishl, 1) := by decide +kernel
theorem dX11_inside_95 : decode cX11_inside 95 = .ok (.iconst 1, 1) := by decide +kernel
theorem dX11_inside_96 : decode cX11_inside 96 = .ok (.isub, 1) := by decide +kernel
theorem dX11_inside_97 : decode cX11_inside 97 = .ok (.invokestatic 72, 3) := by decide +kernel
theorem dX11_inside_100 : decode cX11_inside 100 = .ok (.ifCond .eq 21, 3) := by decide +kernel
theorem dX11_inside_103 : decode cX11_inside 103 = .ok (.aload_n 0, 1) := by decide +kernel
theorem dX11_inside_104 : decode cX11_inside 104 = .ok (.getfield 49, 3) := by decide +kernel
theorem dX11_inside_107 : decode cX11_inside 107 = .ok (.iload 4, 2) := by decide +kernel
theorem dX11_inside_109 : decode cX11_inside 109 = .ok (.sipush 128, 3) := by decide +kernel
theorem dX11_inside_112 : decode cX11_inside 112 = .ok (.iload_n 2, 1) := by decide +kernel
theorem dX11_inside_113 : decode cX11_inside 113 = .ok (.imul, 1) := by decide +kernel
theorem dX11_inside_114 : decode cX11_inside 114 = .ok (.iadd, 1) := by decide +kernel
theorem dX11_inside_115 : decode cX11_inside 115 = .ok (.iload_n 3, 1) := by decide +kernel
theorem dX11_inside_116 : decode cX11_inside 116 = .ok (.iadd, 1) := by decide +kernel
theorem dX11_inside_117 : decode cX11_inside 117 = .ok (.iaload, 1) := by decide +kernel
theorem dX11_inside_118 : decode cX11_inside 118 = .ok (.goto 6, 3) := by decide +kernel
theorem dX11_inside_121 : decode cX11_inside 121 = .ok (.sipush (-1000), 3) := by decide +kernel
theorem dX11_inside_124 : decode cX11_inside 124 = .ok (.ireturn, 1) := by decide +kernel
theorem dX11_inside_125 : decode cX11_inside 125 = .ok (.iload_n 2, 1) := by decide +kernel
theorem dX11_inside_126 : decode cX11_inside 126 = .ok (.iconst 0, 1) := by decide +kernel
theorem dX11_inside_127 : decode cX11_inside 127 = .ok (.iconst 1, 1) := by decide +kernel
theorem dX11_inside_128 : decode cX11_inside 128 = .ok (.aload_n 0, 1) := by decide +kernel
theorem dX11_inside_129 : decode cX11_inside 129 = .ok (.getfield 37, 3) := by decide +kernel
theorem dX11_inside_132 : decode cX11_inside 132 = .ok (.iload_n 1, 1) := by decide +kernel
theorem dX11_inside_133 : decode cX11_inside 133 = .ok (.iaload, 1) := by decide +kernel
theorem dX11_inside_134 : decode cX11_inside 134 = .ok (.ishl, 1) := by decide +kernel
theorem dX11_inside_135 : decode cX11_inside 135 = .ok (.iconst 1, 1) := by decide +kernel
theorem dX11_inside_136 : decode cX11_inside 136 = .ok (.isub, 1) := by decide +kernel
theorem dX11_inside_137 : decode cX11_inside 137 = .ok (.invokestatic 72, 3) := by decide +kernel
theorem dX11_inside_140 : decode cX11_inside 140 = .ok (.ifCond .eq 34, 3) := by decide +kernel
theorem dX11_inside_143 : decode cX11_inside 143 = .ok (.iload_n 3, 1) := by decide +kernel
theorem dX11_inside_144 : decode cX11_inside 144 = .ok (.iconst 0, 1) := by decide +kernel
theorem dX11_inside_145 : decode cX11_inside 145 = .ok (.aload_n 0, 1) := by decide +kernel
theorem dX11_inside_146 : decode cX11_inside 146 = .ok (.getfield 40, 3) := by decide +kernel
theorem dX11_inside_149 : decode cX11_inside 149 = .ok (.iload_n 1, 1) := by decide +kernel
theorem dX11_inside_150 : decode cX11_inside 150 = .ok (.iaload, 1) := by decide +kernel
theorem dX11_inside_151 : decode cX11_inside 151 = .ok (.invokestatic 72, 3) := by decide +kernel
theorem dX11_inside_154 : decode cX11_inside 154 = .ok (.ifCond .eq 20, 3) := by decide +kernel
theorem dX11_inside_157 : decode cX11_inside 157 = .ok (.aload_n 0, 1) := by decide +kernel
theorem dX11_inside_158 : decode cX11_inside 158 = .ok (.getfield 49, 3) := by decide +kernel
theorem dX11_inside_161 : decode cX11_inside 161 = .ok (.iload 4, 2) := by decide +kernel
theorem dX11_inside_163 : decode cX11_inside 163 = .ok (.bipush 9, 2) := by decide +kernel
theorem dX11_inside_165 : decode cX11_inside 165 = .ok (.iload_n 2, 1) := by decide +kernel
theorem dX11_inside_166 : decode cX11_inside 166 = .ok (.imul, 1) := by decide +kernel
theorem dX11_inside_167 : decode cX11_inside 167 = .ok (.iadd, 1) := by decide +kernel
theorem dX11_inside_168 : decode cX11_inside 168 = .ok (.iload_n 3, 1) := by decide +kernel
theorem dX11_inside_169 : decode cX11_inside 169 = .ok (.iadd, 1) := by decide +kernel
theorem dX11_inside_170 : decode cX11_inside 170 = .ok (.iaload, 1) := by decide +kernel
theorem dX11_inside_171 : decode cX11_inside 171 = .ok (.goto 6, 3) := by decide +kernel
theorem dX11_inside_174 : decode cX11_inside 174 = .ok (.sipush (-1000), 3) := by decide +kernel
theorem dX11_inside_177 : decode cX11_inside 177 = .ok (.ireturn, 1) := by decide +kernel
theorem dX11_inside_178 : decode cX11_inside 178 = .ok (.iload_n 2, 1) := by decide +kernel
theorem dX11_inside_179 : decode cX11_inside 179 = .ok (.invokestatic 76, 3) := by decide +kernel
theorem dX11_inside_182 : decode cX11_inside 182 = .ok (.ifCond .eq 28, 3) := by decide +kernel
theorem dX11_inside_185 : decode cX11_inside 185 = .ok (.iload_n 3, 1) := by decide +kernel
theorem dX11_inside_186 : decode cX11_inside 186 = .ok (.iconst 0, 1) := by decide +kernel
theorem dX11_inside_187 : decode cX11_inside 187 = .ok (.iconst 2, 1) := by decide +kernel
theorem dX11_inside_188 : decode cX11_inside 188 = .ok (.invokestatic 72, 3) := by decide +kernel
theorem dX11_inside_191 : decode cX11_inside 191 = .ok (.ifCond .eq 19, 3) := by decide +kernel
theorem dX11_inside_194 : decode cX11_inside 194 = .ok (.aload_n 0, 1) := by decide +kernel
theorem dX11_inside_195 : decode cX11_inside 195 = .ok (.getfield 49, 3) := by decide +kernel
theorem dX11_inside_198 : decode cX11_inside 198 = .ok (.iload 4, 2) := by decide +kernel
theorem dX11_inside_200 : decode cX11_inside 200 = .ok (.iconst 3, 1) := by decide +kernel
theorem dX11_inside_201 : decode cX11_inside 201 = .ok (.iload_n 2, 1) := by decide +kernel
theorem dX11_inside_202 : decode cX11_inside 202 = .ok (.imul, 1) := by decide +kernel
theorem dX11_inside_203 : decode cX11_inside 203 = .ok (.iadd, 1) := by decide +kernel
theorem dX11_inside_204 : decode cX11_inside 204 = .ok (.iload_n 3, 1) := by decide +kernel
theorem dX11_inside_205 : decode cX11_inside 205 = .ok (.iadd, 1) := by decide +kernel
theorem dX11_inside_206 : decode cX11_inside 206 = .ok (.iaload, 1) := by decide +kernel
theorem dX11_inside_207 : decode cX11_inside 207 = .ok (.goto 6, 3) := by decide +kernel
theorem dX11_inside_210 : decode cX11_inside 210 = .ok (.sipush (-1000), 3) := by decide +kernel
theorem dX11_inside_213 : decode cX11_inside 213 = .ok (.ireturn, 1) := by decide +kernel
theorem dX11_inside_214 : decode cX11_inside 214 = .ok (.iload_n 2, 1) := by decide +kernel
theorem dX11_inside_215 : decode cX11_inside 215 = .ok (.ifCond .ne 33, 3) := by decide +kernel
theorem dX11_inside_218 : decode cX11_inside 218 = .ok (.iload_n 3, 1) := by decide +kernel
theorem dX11_inside_219 : decode cX11_inside 219 = .ok (.iconst 0, 1) := by decide +kernel
theorem dX11_inside_220 : decode cX11_inside 220 = .ok (.iconst 1, 1) := by decide +kernel
theorem dX11_inside_221 : decode cX11_inside 221 = .ok (.aload_n 0, 1) := by decide +kernel
theorem dX11_inside_222 : decode cX11_inside 222 = .ok (.getfield 43, 3) := by decide +kernel
theorem dX11_inside_225 : decode cX11_inside 225 = .ok (.iload_n 1, 1) := by decide +kernel
theorem dX11_inside_226 : decode cX11_inside 226 = .ok (.iaload, 1) := by decide +kernel
theorem dX11_inside_227 : decode cX11_inside 227 = .ok (.ishl, 1) := by decide +kernel
theorem dX11_inside_228 : decode cX11_inside 228 = .ok (.iconst 1, 1) := by decide +kernel
theorem dX11_inside_229 : decode cX11_inside 229 = .ok (.isub, 1) := by decide +kernel
theorem dX11_inside_230 : decode cX11_inside 230 = .ok (.invokestatic 72, 3) := by decide +kernel
theorem dX11_inside_233 : decode cX11_inside 233 = .ok (.ifCond .eq 15, 3) := by decide +kernel
theorem dX11_inside_236 : decode cX11_inside 236 = .ok (.aload_n 0, 1) := by decide +kernel
theorem dX11_inside_237 : decode cX11_inside 237 = .ok (.getfield 49, 3) := by decide +kernel
theorem dX11_inside_240 : decode cX11_inside 240 = .ok (.iload 4, 2) := by decide +kernel
theorem dX11_inside_242 : decode cX11_inside 242 = .ok (.iload_n 3, 1) := by decide +kernel
theorem dX11_inside_243 : decode cX11_inside 243 = .ok (.iadd, 1) := by decide +kernel
theorem dX11_inside_244 : decode cX11_inside 244 = .ok (.iaload, 1) := by decide +kernel
theorem dX11_inside_245 : decode cX11_inside 245 = .ok (.goto 6, 3) := by decide +kernel
theorem dX11_inside_248 : decode cX11_inside 248 = .ok (.sipush (-1000), 3) := by decide +kernel
theorem dX11_inside_251 : decode cX11_inside 251 = .ok (.ireturn, 1) := by decide +kernel
theorem dX11_inside_252 : decode cX11_inside 252 = .ok (.iload_n 2, 1) := by decide +kernel
theorem dX11_inside_253 : decode cX11_inside 253 = .ok (.ifCond .ne 33, 3) := by decide +kernel
theorem dX11_inside_256 : decode cX11_inside 256 = .ok (.iload_n 3, 1) := by decide +kernel
theorem dX11_inside_257 : decode cX11_inside 257 = .ok (.iconst 0, 1) := by decide +kernel
theorem dX11_inside_258 : decode cX11_inside 258 = .ok (.iconst 1, 1) := by decide +kernel
theorem dX11_inside_259 : decode cX11_inside 259 = .ok (.aload_n 0, 1) := by decide +kernel
theorem dX11_inside_260 : decode cX11_inside 260 = .ok (.getfield 37, 3) := by decide +kernel
theorem dX11_inside_263 : decode cX11_inside 263 = .ok (.iload_n 1, 1) := by decide +kernel
theorem dX11_inside_264 : decode cX11_inside 264 = .ok (.iaload, 1) := by decide +kernel
theorem dX11_inside_265 : decode cX11_inside 265 = .ok (.ishl, 1) := by decide +kernel
theorem dX11_inside_266 : decode cX11_inside 266 = .ok (.iconst 1, 1) := by decide +kernel
theorem dX11_inside_267 : decode cX11_inside 267 = .ok (.isub, 1) := by decide +kernel
theorem dX11_inside_268 : decode cX11_inside 268 = .ok (.invokestatic 72, 3) := by decide +kernel
theorem dX11_inside_271 : decode cX11_inside 271 = .ok (.ifCond .eq 15, 3) := by decide +kernel
theorem dX11_inside_274 : decode cX11_inside 274 = .ok (.aload_n 0, 1) := by decide +kernel
theorem dX11_inside_275 : decode cX11_inside 275 = .ok (.getfield 49, 3) := by decide +kernel
theorem dX11_inside_278 : decode cX11_inside 278 = .ok (.iload 4, 2) := by decide +kernel
theorem dX11_inside_280 : decode cX11_inside 280 = .ok (.iload_n 3, 1) := by decide +kernel
theorem dX11_inside_281 : decode cX11_inside 281 = .ok (.iadd, 1) := by decide +kernel
theorem dX11_inside_282 : decode cX11_inside 282 = .ok (.iaload, 1) := by decide +kernel
theorem dX11_inside_283 : decode cX11_inside 283 = .ok (.goto 6, 3) := by decide +kernel
theorem dX11_inside_286 : decode cX11_inside 286 = .ok (.sipush (-1000), 3) := by decide +kernel
theorem dX11_inside_289 : decode cX11_inside 289 = .ok (.ireturn, 1) := by decide +kernel
theorem dX11_fresh_0 : decode cX11_fresh 0 = .ok (.aload_n 0, 1) := by decide +kernel
theorem dX11_fresh_1 : decode cX11_fresh 1 = .ok (.iload_n 1, 1) := by decide +kernel
theorem dX11_fresh_2 : decode cX11_fresh 2 = .ok (.invokevirtual 107, 3) := by decide +kernel
theorem dX11_fresh_5 : decode cX11_fresh 5 = .ok (.ifCond .ne 5, 3) := by decide +kernel
theorem dX11_fresh_8 : decode cX11_fresh 8 = .ok (.iconst (-1), 1) := by decide +kernel
theorem dX11_fresh_9 : decode cX11_fresh 9 = .ok (.ireturn, 1) := by decide +kernel
theorem dX11_fresh_10 : decode cX11_fresh 10 = .ok (.aload_n 0, 1) := by decide +kernel
theorem dX11_fresh_11 : decode cX11_fresh 11 = .ok (.getfield 49, 3) := by decide +kernel
theorem dX11_fresh_14 : decode cX11_fresh 14 = .ok (.sipush 812, 3) := by decide +kernel
theorem dX11_fresh_17 : decode cX11_fresh 17 = .ok (.iload_n 1, 1) := by decide +kernel
theorem dX11_fresh_18 : decode cX11_fresh 18 = .ok (.imul, 1) := by decide +kernel
theorem dX11_fresh_19 : decode cX11_fresh 19 = .ok (.sipush 809, 3) := by decide +kernel
theorem dX11_fresh_22 : decode cX11_fresh 22 = .ok (.iadd, 1) := by decide +kernel
theorem dX11_fresh_23 : decode cX11_fresh 23 = .ok (.iaload, 1) := by decide +kernel
theorem dX11_fresh_24 : decode cX11_fresh 24 = .ok (.istore_n 2, 1) := by decide +kernel
theorem dX11_fresh_25 : decode cX11_fresh 25 = .ok (.aload_n 0, 1) := by decide +kernel
theorem dX11_fresh_26 : decode cX11_fresh 26 = .ok (.iload_n 1, 1) := by decide +kernel
theorem dX11_fresh_27 : decode cX11_fresh 27 = .ok (.invokevirtual 114, 3) := by decide +kernel
theorem dX11_fresh_30 : decode cX11_fresh 30 = .ok (.iload_n 2, 1) := by decide +kernel
theorem dX11_fresh_31 : decode cX11_fresh 31 = .ok (.ireturn, 1) := by decide +kernel
theorem dX11_again_0 : decode cX11_again 0 = .ok (.aload_n 0, 1) := by decide +kernel
theorem dX11_again_1 : decode cX11_again 1 = .ok (.iload_n 1, 1) := by decide +kernel
theorem dX11_again_2 : decode cX11_again 2 = .ok (.invokevirtual 107, 3) := by decide +kernel
theorem dX11_again_5 : decode cX11_again 5 = .ok (.ifCond .ne 5, 3) := by decide +kernel
theorem dX11_again_8 : decode cX11_again 8 = .ok (.iconst (-1), 1) := by decide +kernel
theorem dX11_again_9 : decode cX11_again 9 = .ok (.ireturn, 1) := by decide +kernel
theorem dX11_again_10 : decode cX11_again 10 = .ok (.iconst 1, 1) := by decide +kernel
theorem dX11_again_11 : decode cX11_again 11 = .ok (.iload_n 1, 1) := by decide +kernel
theorem dX11_again_12 : decode cX11_again 12 = .ok (.ishl, 1) := by decide +kernel
theorem dX11_again_13 : decode cX11_again 13 = .ok (.istore_n 2, 1) := by decide +kernel
theorem dX11_again_14 : decode cX11_again 14 = .ok (.iload_n 1, 1) := by decide +kernel
theorem dX11_again_15 : decode cX11_again 15 = .ok (.istore_n 3, 1) := by decide +kernel
theorem dX11_again_16 : decode cX11_again 16 = .ok (.iload_n 3, 1) := by decide +kernel
theorem dX11_again_17 : decode cX11_again 17 = .ok (.ifCond .lt 65, 3) := by decide +kernel
theorem dX11_again_20 : decode cX11_again 20 = .ok (.iload_n 2, 1) := by decide +kernel
theorem dX11_again_21 : decode cX11_again 21 = .ok (.iload_n 3, 1) := by decide +kernel
theorem dX11_again_22 : decode cX11_again 22 = .ok (.ishr, 1) := by decide +kernel
theorem dX11_again_23 : decode cX11_again 23 = .ok (.iconst 1, 1) := by decide +kernel
theorem dX11_again_24 : decode cX11_again 24 = .ok (.iand, 1) := by decide +kernel
theorem dX11_again_25 : decode cX11_again 25 = .ok (.iconst 1, 1) := by decide +kernel
theorem dX11_again_26 : decode cX11_again 26 = .ok (.if_icmp .ne 18, 3) := by decide +kernel
theorem dX11_again_29 : decode cX11_again 29 = .ok (.aload_n 0, 1) := by decide +kernel
theorem dX11_again_30 : decode cX11_again 30 = .ok (.getfield 34, 3) := by decide +kernel
theorem dX11_again_33 : decode cX11_again 33 = .ok (.iload_n 3, 1) := by decide +kernel
theorem dX11_again_34 : decode cX11_again 34 = .ok (.iaload, 1) := by decide +kernel
theorem dX11_again_35 : decode cX11_again 35 = .ok (.bipush 7, 2) := by decide +kernel
theorem dX11_again_37 : decode cX11_again 37 = .ok (.if_icmp .ne 7, 3) := by decide +kernel
theorem dX11_again_40 : decode cX11_again 40 = .ok (.iconst 1, 1) := by decide +kernel
theorem dX11_again_41 : decode cX11_again 41 = .ok (.goto 4, 3) := by decide +kernel
theorem dX11_again_44 : decode cX11_again 44 = .ok (.iconst 0, 1) := by decide +kernel
theorem dX11_again_45 : decode cX11_again 45 = .ok (.istore 4, 2) := by decide +kernel
theorem dX11_again_47 : decode cX11_again 47 = .ok (.iload_n 2, 1) := by decide +kernel
theorem dX11_again_48 : decode cX11_again 48 = .ok (.iload 4, 2) := by decide +kernel
theorem dX11_again_50 : decode cX11_again 50 = .ok (.ifCond .eq 23, 3) := by decide +kernel
theorem dX11_again_53 : decode cX11_again 53 = .ok (.iconst 1, 1) := by decide +kernel
theorem dX11_again_54 : decode cX11_again 54 = .ok (.aload_n 0, 1) := by decide +kernel
theorem dX11_again_55 : decode cX11_again 55 = .ok (.getfield 37, 3) := by decide +kernel
theorem dX11_again_58 : decode cX11_again 58 = .ok (.iload_n 3, 1) := by decide +kernel
theorem dX11_again_59 : decode cX11_again 59 = .ok (.iaload, 1) := by decide +kernel
theorem dX11_again_60 : decode cX11_again 60 = .ok (.ishl, 1) := by decide +kernel
theorem dX11_again_61 : decode cX11_again 61 = .ok (.iconst 1, 1) := by decide +kernel
theorem dX11_again_62 : decode cX11_again 62 = .ok (.aload_n 0, 1) := by decide +kernel
theorem dX11_again_63 : decode cX11_again 63 = .ok (.getfield 40, 3) := by decide +kernel
theorem dX11_again_66 : decode cX11_again 66 = .ok (.iload_n 3, 1) := by decide +kernel
theorem dX11_again_67 : decode cX11_again 67 = .ok (.iaload, 1) := by decide +kernel
theorem dX11_again_68 : decode cX11_again 68 = .ok (.ishl, 1) := by decide +kernel
theorem dX11_again_69 : decode cX11_again 69 = .ok (.ior, 1) := by decide +kernel
theorem dX11_again_70 : decode cX11_again 70 = .ok (.goto 4, 3) := by decide +kernel
theorem dX11_again_73 : decode cX11_again 73 = .ok (.iconst 0, 1) := by decide +kernel
theorem dX11_again_74 : decode cX11_again 74 = .ok (.ior, 1) := by decide +kernel
theorem dX11_again_75 : decode cX11_again 75 = .ok (.istore_n 2, 1) := by decide +kernel
theorem dX11_again_76 : decode cX11_again 76 = .ok (.iinc 3 (-1), 3) := by decide +kernel
theorem dX11_again_79 : decode cX11_again 79 = .ok (.goto (-63), 3) := by decide +kernel
theorem dX11_again_82 : decode cX11_again 82 = .ok (.iconst 0, 1) := by decide +kernel
theorem dX11_again_83 : decode cX11_again 83 = .ok (.istore_n 3, 1) := by decide +kernel
theorem dX11_again_84 : decode cX11_again 84 = .ok (.iload_n 3, 1) := by decide +kernel
theorem dX11_again_85 : decode cX11_again 85 = .ok (.iload_n 1, 1) := by decide +kernel
theorem dX11_again_86 : decode cX11_again 86 = .ok (.if_icmp .gt 23, 3) := by decide +kernel
theorem dX11_again_89 : decode cX11_again 89 = .ok (.iload_n 2, 1) := by decide +kernel
theorem dX11_again_90 : decode cX11_again 90 = .ok (.iload_n 3, 1) := by decide +kernel
theorem dX11_again_91 : decode cX11_again 91 = .ok (.ishr, 1) := by decide +kernel
theorem dX11_again_92 : decode cX11_again 92 = .ok (.iconst 1, 1) := by decide +kernel
theorem dX11_again_93 : decode cX11_again 93 = .ok (.iand, 1) := by decide +kernel
theorem dX11_again_94 : decode cX11_again 94 = .ok (.iconst 1, 1) := by decide +kernel
theorem dX11_again_95 : decode cX11_again 95 = .ok (.if_icmp .ne 8, 3) := by decide +kernel
theorem dX11_again_98 : decode cX11_again 98 = .ok (.aload_n 0, 1) := by decide +kernel
theorem dX11_again_99 : decode cX11_again 99 = .ok (.iload_n 3, 1) := by decide +kernel
theorem dX11_again_100 : decode cX11_again 100 = .ok (.invokevirtual 114, 3) := by decide +kernel
theorem dX11_again_103 : decode cX11_again 103 = .ok (.iinc 3 1, 3) := by decide +kernel
theorem dX11_again_106 : decode cX11_again 106 = .ok (.goto (-22), 3) := by decide +kernel
theorem dX11_again_109 : decode cX11_again 109 = .ok (.iconst 0, 1) := by decide +kernel
theorem dX11_again_110 : decode cX11_again 110 = .ok (.istore_n 3, 1) := by decide +kernel
theorem dX11_again_111 : decode cX11_again 111 = .ok (.iload_n 3, 1) := by decide +kernel
theorem dX11_again_112 : decode cX11_again 112 = .ok (.aload_n 0, 1) := by decide +kernel
theorem dX11_again_113 : decode cX11_again 113 = .ok (.getfield 101, 3) := by decide +kernel
theorem dX11_again_116 : decode cX11_again 116 = .ok (.if_icmp .ge 52, 3) := by decide +kernel
theorem dX11_again_119 : decode cX11_again 119 = .ok (.iconst 0, 1) := by decide +kernel
theorem dX11_again_120 : decode cX11_again 120 = .ok (.istore 4, 2) := by decide +kernel
theorem dX11_again_122 : decode cX11_again 122 = .ok (.iload 4, 2) := by decide +kernel
theorem dX11_again_124 : decode cX11_again 124 = .ok (.iload_n 1, 1) := by decide +kernel
theorem dX11_again_125 : decode cX11_again 125 = .ok (.if_icmp .gt 37, 3) := by decide +kernel
theorem dX11_again_128 : decode cX11_again 128 = .ok (.iload_n 2, 1) := by decide +kernel
theorem dX11_again_129 : decode cX11_again 129 = .ok (.iload 4, 2) := by decide +kernel
theorem dX11_again_131 : decode cX11_again 131 = .ok (.ishr, 1) := by decide +kernel
theorem dX11_again_132 : decode cX11_again 132 = .ok (.iconst 1, 1) := by decide +kernel
theorem dX11_again_133 : decode cX11_again 133 = .ok (.iand, 1) := by decide +kernel
theorem dX11_again_134 : decode cX11_again 134 = .ok (.iconst 1, 1) := by decide +kernel
theorem dX11_again_135 : decode cX11_again 135 = .ok (.if_icmp .ne 21, 3) := by decide +kernel
theorem dX11_again_138 : decode cX11_again 138 = .ok (.aload_n 0, 1) := by decide +kernel
theorem dX11_again_139 : decode cX11_again 139 = .ok (.iload 4, 2) := by decide +kernel
theorem dX11_again_141 : decode cX11_again 141 = .ok (.aload_n 0, 1) := by decide +kernel
theorem dX11_again_142 : decode cX11_again 142 = .ok (.getfield 28, 3) := by decide +kernel
theorem dX11_again_145 : decode cX11_again 145 = .ok (.iload_n 3, 1) := by decide +kernel
theorem dX11_again_146 : decode cX11_again 146 = .ok (.iaload, 1) := by decide +kernel
theorem dX11_again_147 : decode cX11_again 147 = .ok (.aload_n 0, 1) := by decide +kernel
theorem dX11_again_148 : decode cX11_again 148 = .ok (.getfield 31, 3) := by decide +kernel
theorem dX11_again_151 : decode cX11_again 151 = .ok (.iload_n 3, 1) := by decide +kernel
theorem dX11_again_152 : decode cX11_again 152 = .ok (.iaload, 1) := by decide +kernel
theorem dX11_again_153 : decode cX11_again 153 = .ok (.invokevirtual 97, 3) := by decide +kernel
theorem dX11_again_156 : decode cX11_again 156 = .ok (.iinc 4 1, 3) := by decide +kernel
theorem dX11_again_159 : decode cX11_again 159 = .ok (.goto (-37), 3) := by decide +kernel
theorem dX11_again_162 : decode cX11_again 162 = .ok (.iinc 3 1, 3) := by decide +kernel
theorem dX11_again_165 : decode cX11_again 165 = .ok (.goto (-54), 3) := by decide +kernel
theorem dX11_again_168 : decode cX11_again 168 = .ok (.aload_n 0, 1) := by decide +kernel
theorem dX11_again_169 : decode cX11_again 169 = .ok (.iload_n 1, 1) := by decide +kernel
theorem dX11_again_170 : decode cX11_again 170 = .ok (.invokevirtual 152, 3) := by decide +kernel
theorem dX11_again_173 : decode cX11_again 173 = .ok (.ireturn, 1) := by decide +kernel
theorem dX11_keep_0 : decode cX11_keep 0 = .ok (.aload_n 0, 1) := by decide +kernel
theorem dX11_keep_1 : decode cX11_keep 1 = .ok (.iload_n 1, 1) := by decide +kernel
theorem dX11_keep_2 : decode cX11_keep 2 = .ok (.invokevirtual 107, 3) := by decide +kernel
theorem dX11_keep_5 : decode cX11_keep 5 = .ok (.ifCond .eq 12, 3) := by decide +kernel
theorem dX11_keep_8 : decode cX11_keep 8 = .ok (.iload_n 2, 1) := by decide +kernel
theorem dX11_keep_9 : decode cX11_keep 9 = .ok (.iconst 0, 1) := by decide +kernel
theorem dX11_keep_10 : decode cX11_keep 10 = .ok (.iconst 1, 1) := by decide +kernel
theorem dX11_keep_11 : decode cX11_keep 11 = .ok (.invokestatic 72, 3) := by decide +kernel
theorem dX11_keep_14 : decode cX11_keep 14 = .ok (.ifCond .ne 5, 3) := by decide +kernel
theorem dX11_keep_17 : decode cX11_keep 17 = .ok (.iconst (-1), 1) := by decide +kernel
theorem dX11_keep_18 : decode cX11_keep 18 = .ok (.ireturn, 1) := by decide +kernel
theorem dX11_keep_19 : decode cX11_keep 19 = .ok (.iconst 0, 1) := by decide +kernel
theorem dX11_keep_20 : decode cX11_keep 20 = .ok (.istore_n 3, 1) := by decide +kernel
theorem dX11_keep_21 : decode cX11_keep 21 = .ok (.iload_n 3, 1) := by decide +kernel
theorem dX11_keep_22 : decode cX11_keep 22 = .ok (.sipush 812, 3) := by decide +kernel
theorem dX11_keep_25 : decode cX11_keep 25 = .ok (.if_icmp .ge 37, 3) := by decide +kernel
theorem dX11_keep_28 : decode cX11_keep 28 = .ok (.aload_n 0, 1) := by decide +kernel
theorem dX11_keep_29 : decode cX11_keep 29 = .ok (.getfield 52, 3) := by decide +kernel
theorem dX11_keep_32 : decode cX11_keep 32 = .ok (.sipush 812, 3) := by decide +kernel
theorem dX11_keep_35 : decode cX11_keep 35 = .ok (.iconst 2, 1) := by decide +kernel
theorem dX11_keep_36 : decode cX11_keep 36 = .ok (.iload_n 1, 1) := by decide +kernel
theorem dX11_keep_37 : decode cX11_keep 37 = .ok (.imul, 1) := by decide +kernel
theorem dX11_keep_38 : decode cX11_keep 38 = .ok (.iload_n 2, 1) := by decide +kernel
theorem dX11_keep_39 : decode cX11_keep 39 = .ok (.iadd, 1) := by decide +kernel
theorem dX11_keep_40 : decode cX11_keep 40 = .ok (.imul, 1) := by decide +kernel
theorem dX11_keep_41 : decode cX11_keep 41 = .ok (.iload_n 3, 1) := by decide +kernel
theorem dX11_keep_42 : decode cX11_keep 42 = .ok (.iadd, 1) := by decide +kernel
theorem dX11_keep_43 : decode cX11_keep 43 = .ok (.aload_n 0, 1) := by decide +kernel
theorem dX11_keep_44 : decode cX11_keep 44 = .ok (.getfield 49, 3) := by decide +kernel
theorem dX11_keep_47 : decode cX11_keep 47 = .ok (.sipush 812, 3) := by decide +kernel
theorem dX11_keep_50 : decode cX11_keep 50 = .ok (.iload_n 1, 1) := by decide +kernel
theorem dX11_keep_51 : decode cX11_keep 51 = .ok (.imul, 1) := by decide +kernel
theorem dX11_keep_52 : decode cX11_keep 52 = .ok (.iload_n 3, 1) := by decide +kernel
theorem dX11_keep_53 : decode cX11_keep 53 = .ok (.iadd, 1) := by decide +kernel
theorem dX11_keep_54 : decode cX11_keep 54 = .ok (.iaload, 1) := by decide +kernel
theorem dX11_keep_55 : decode cX11_keep 55 = .ok (.iastore, 1) := by decide +kernel
theorem dX11_keep_56 : decode cX11_keep 56 = .ok (.iinc 3 1, 3) := by decide +kernel
theorem dX11_keep_59 : decode cX11_keep 59 = .ok (.goto (-38), 3) := by decide +kernel
theorem dX11_keep_62 : decode cX11_keep 62 = .ok (.aload_n 0, 1) := by decide +kernel
theorem dX11_keep_63 : decode cX11_keep 63 = .ok (.getfield 55, 3) := by decide +kernel
theorem dX11_keep_66 : decode cX11_keep 66 = .ok (.iconst 2, 1) := by decide +kernel
theorem dX11_keep_67 : decode cX11_keep 67 = .ok (.iload_n 1, 1) := by decide +kernel
theorem dX11_keep_68 : decode cX11_keep 68 = .ok (.imul, 1) := by decide +kernel
theorem dX11_keep_69 : decode cX11_keep 69 = .ok (.iload_n 2, 1) := by decide +kernel
theorem dX11_keep_70 : decode cX11_keep 70 = .ok (.iadd, 1) := by decide +kernel
theorem dX11_keep_71 : decode cX11_keep 71 = .ok (.iconst 1, 1) := by decide +kernel
theorem dX11_keep_72 : decode cX11_keep 72 = .ok (.bastore, 1) := by decide +kernel
theorem dX11_keep_73 : decode cX11_keep 73 = .ok (.iconst 1, 1) := by decide +kernel
theorem dX11_keep_74 : decode cX11_keep 74 = .ok (.ireturn, 1) := by decide +kernel
theorem dX11_back_0 : decode cX11_back 0 = .ok (.aload_n 0, 1) := by decide +kernel
theorem dX11_back_1 : decode cX11_back 1 = .ok (.iload_n 1, 1) := by decide +kernel
theorem dX11_back_2 : decode cX11_back 2 = .ok (.invokevirtual 107, 3) := by decide +kernel
theorem dX11_back_5 : decode cX11_back 5 = .ok (.ifCond .eq 25, 3) := by decide +kernel
theorem dX11_back_8 : decode cX11_back 8 = .ok (.iload_n 2, 1) := by decide +kernel
theorem dX11_back_9 : decode cX11_back 9 = .ok (.iconst 0, 1) := by decide +kernel
theorem dX11_back_10 : decode cX11_back 10 = .ok (.iconst 1, 1) := by decide +kernel
theorem dX11_back_11 : decode cX11_back 11 = .ok (.invokestatic 72, 3) := by decide +kernel
theorem dX11_back_14 : decode cX11_back 14 = .ok (.ifCond .eq 16, 3) := by decide +kernel
theorem dX11_back_17 : decode cX11_back 17 = .ok (.aload_n 0, 1) := by decide +kernel
theorem dX11_back_18 : decode cX11_back 18 = .ok (.getfield 55, 3) := by decide +kernel
theorem dX11_back_21 : decode cX11_back 21 = .ok (.iconst 2, 1) := by decide +kernel
theorem dX11_back_22 : decode cX11_back 22 = .ok (.iload_n 1, 1) := by decide +kernel
theorem dX11_back_23 : decode cX11_back 23 = .ok (.imul, 1) := by decide +kernel
theorem dX11_back_24 : decode cX11_back 24 = .ok (.iload_n 2, 1) := by decide +kernel
theorem dX11_back_25 : decode cX11_back 25 = .ok (.iadd, 1) := by decide +kernel
theorem dX11_back_26 : decode cX11_back 26 = .ok (.baload, 1) := by decide +kernel
theorem dX11_back_27 : decode cX11_back 27 = .ok (.ifCond .ne 5, 3) := by decide +kernel
theorem dX11_back_30 : decode cX11_back 30 = .ok (.iconst (-1), 1) := by decide +kernel
theorem dX11_back_31 : decode cX11_back 31 = .ok (.ireturn, 1) := by decide +kernel
theorem dX11_back_32 : decode cX11_back 32 = .ok (.iconst 0, 1) := by decide +kernel
theorem dX11_back_33 : decode cX11_back 33 = .ok (.istore_n 3, 1) := by decide +kernel
theorem dX11_back_34 : decode cX11_back 34 = .ok (.iload_n 3, 1) := by decide +kernel
theorem dX11_back_35 : decode cX11_back 35 = .ok (.sipush 812, 3) := by decide +kernel
theorem dX11_back_38 : decode cX11_back 38 = .ok (.if_icmp .ge 37, 3) := by decide +kernel
theorem dX11_back_41 : decode cX11_back 41 = .ok (.aload_n 0, 1) := by decide +kernel
theorem dX11_back_42 : decode cX11_back 42 = .ok (.getfield 49, 3) := by decide +kernel
theorem dX11_back_45 : decode cX11_back 45 = .ok (.sipush 812, 3) := by decide +kernel
theorem dX11_back_48 : decode cX11_back 48 = .ok (.iload_n 1, 1) := by decide +kernel
theorem dX11_back_49 : decode cX11_back 49 = .ok (.imul, 1) := by decide +kernel
theorem dX11_back_50 : decode cX11_back 50 = .ok (.iload_n 3, 1) := by decide +kernel
theorem dX11_back_51 : decode cX11_back 51 = .ok (.iadd, 1) := by decide +kernel
theorem dX11_back_52 : decode cX11_back 52 = .ok (.aload_n 0, 1) := by decide +kernel
theorem dX11_back_53 : decode cX11_back 53 = .ok (.getfield 52, 3) := by decide +kernel
theorem dX11_back_56 : decode cX11_back 56 = .ok (.sipush 812, 3) := by decide +kernel
theorem dX11_back_59 : decode cX11_back 59 = .ok (.iconst 2, 1) := by decide +kernel
theorem dX11_back_60 : decode cX11_back 60 = .ok (.iload_n 1, 1) := by decide +kernel
theorem dX11_back_61 : decode cX11_back 61 = .ok (.imul, 1) := by decide +kernel
theorem dX11_back_62 : decode cX11_back 62 = .ok (.iload_n 2, 1) := by decide +kernel
theorem dX11_back_63 : decode cX11_back 63 = .ok (.iadd, 1) := by decide +kernel
theorem dX11_back_64 : decode cX11_back 64 = .ok (.imul, 1) := by decide +kernel
theorem dX11_back_65 : decode cX11_back 65 = .ok (.iload_n 3, 1) := by decide +kernel
theorem dX11_back_66 : decode cX11_back 66 = .ok (.iadd, 1) := by decide +kernel
theorem dX11_back_67 : decode cX11_back 67 = .ok (.iaload, 1) := by decide +kernel
theorem dX11_back_68 : decode cX11_back 68 = .ok (.iastore, 1) := by decide +kernel
theorem dX11_back_69 : decode cX11_back 69 = .ok (.iinc 3 1, 3) := by decide +kernel
theorem dX11_back_72 : decode cX11_back 72 = .ok (.goto (-38), 3) := by decide +kernel
theorem dX11_back_75 : decode cX11_back 75 = .ok (.aload_n 0, 1) := by decide +kernel
theorem dX11_back_76 : decode cX11_back 76 = .ok (.getfield 49, 3) := by decide +kernel
theorem dX11_back_79 : decode cX11_back 79 = .ok (.sipush 812, 3) := by decide +kernel
theorem dX11_back_82 : decode cX11_back 82 = .ok (.iload_n 1, 1) := by decide +kernel
theorem dX11_back_83 : decode cX11_back 83 = .ok (.imul, 1) := by decide +kernel
theorem dX11_back_84 : decode cX11_back 84 = .ok (.sipush 809, 3) := by decide +kernel
theorem dX11_back_87 : decode cX11_back 87 = .ok (.iadd, 1) := by decide +kernel
theorem dX11_back_88 : decode cX11_back 88 = .ok (.iaload, 1) := by decide +kernel
theorem dX11_back_89 : decode cX11_back 89 = .ok (.ireturn, 1) := by decide +kernel
theorem dX11_countAll_0 : decode cX11_countAll 0 = .ok (.iconst 0, 1) := by decide +kernel
theorem dX11_countAll_1 : decode cX11_countAll 1 = .ok (.istore_n 3, 1) := by decide +kernel
theorem dX11_countAll_2 : decode cX11_countAll 2 = .ok (.iload_n 3, 1) := by decide +kernel
theorem dX11_countAll_3 : decode cX11_countAll 3 = .ok (.ldc 65, 2) := by decide +kernel
theorem dX11_countAll_5 : decode cX11_countAll 5 = .ok (.if_icmp .ge 16, 3) := by decide +kernel
theorem dX11_countAll_8 : decode cX11_countAll 8 = .ok (.aload_n 0, 1) := by decide +kernel
theorem dX11_countAll_9 : decode cX11_countAll 9 = .ok (.getfield 66, 3) := by decide +kernel
theorem dX11_countAll_12 : decode cX11_countAll 12 = .ok (.iload_n 3, 1) := by decide +kernel
theorem dX11_countAll_13 : decode cX11_countAll 13 = .ok (.iconst 0, 1) := by decide +kernel
theorem dX11_countAll_14 : decode cX11_countAll 14 = .ok (.iastore, 1) := by decide +kernel
theorem dX11_countAll_15 : decode cX11_countAll 15 = .ok (.iinc 3 1, 3) := by decide +kernel
theorem dX11_countAll_18 : decode cX11_countAll 18 = .ok (.goto (-16), 3) := by decide +kernel
theorem dX11_countAll_21 : decode cX11_countAll 21 = .ok (.iconst 0, 1) := by decide +kernel
theorem dX11_countAll_22 : decode cX11_countAll 22 = .ok (.istore_n 3, 1) := by decide +kernel
theorem dX11_countAll_23 : decode cX11_countAll 23 = .ok (.iload_n 3, 1) := by decide +kernel
theorem dX11_countAll_24 : decode cX11_countAll 24 = .ok (.bipush 64, 2) := by decide +kernel
theorem dX11_countAll_26 : decode cX11_countAll 26 = .ok (.if_icmp .ge 16, 3) := by decide +kernel
theorem dX11_countAll_29 : decode cX11_countAll 29 = .ok (.aload_n 0, 1) := by decide +kernel
theorem dX11_countAll_30 : decode cX11_countAll 30 = .ok (.getfield 69, 3) := by decide +kernel
theorem dX11_countAll_33 : decode cX11_countAll 33 = .ok (.iload_n 3, 1) := by decide +kernel
theorem dX11_countAll_34 : decode cX11_countAll 34 = .ok (.iconst 0, 1) := by decide +kernel
theorem dX11_countAll_35 : decode cX11_countAll 35 = .ok (.iastore, 1) := by decide +kernel
theorem dX11_countAll_36 : decode cX11_countAll 36 = .ok (.iinc 3 1, 3) := by decide +kernel
theorem dX11_countAll_39 : decode cX11_countAll 39 = .ok (.goto (-16), 3) := by decide +kernel
theorem dX11_countAll_42 : decode cX11_countAll 42 = .ok (.iconst 0, 1) := by decide +kernel
theorem dX11_countAll_43 : decode cX11_countAll 43 = .ok (.istore_n 3, 1) := by decide +kernel
theorem dX11_countAll_44 : decode cX11_countAll 44 = .ok (.iconst 0, 1) := by decide +kernel
theorem dX11_countAll_45 : decode cX11_countAll 45 = .ok (.istore 4, 2) := by decide +kernel
theorem dX11_countAll_47 : decode cX11_countAll 47 = .ok (.iload 4, 2) := by decide +kernel
theorem dX11_countAll_49 : decode cX11_countAll 49 = .ok (.aload_n 0, 1) := by decide +kernel
theorem dX11_countAll_50 : decode cX11_countAll 50 = .ok (.getfield 101, 3) := by decide +kernel
theorem dX11_countAll_53 : decode cX11_countAll 53 = .ok (.if_icmp .ge 103, 3) := by decide +kernel
theorem dX11_countAll_56 : decode cX11_countAll 56 = .ok (.aload_n 0, 1) := by decide +kernel
theorem dX11_countAll_57 : decode cX11_countAll 57 = .ok (.getfield 28, 3) := by decide +kernel
theorem dX11_countAll_60 : decode cX11_countAll 60 = .ok (.iload 4, 2) := by decide +kernel
theorem dX11_countAll_62 : decode cX11_countAll 62 = .ok (.iaload, 1) := by decide +kernel
theorem dX11_countAll_63 : decode cX11_countAll 63 = .ok (.istore 5, 2) := by decide +kernel
theorem dX11_countAll_65 : decode cX11_countAll 65 = .ok (.aload_n 0, 1) := by decide +kernel
theorem dX11_countAll_66 : decode cX11_countAll 66 = .ok (.getfield 31, 3) := by decide +kernel
theorem dX11_countAll_69 : decode cX11_countAll 69 = .ok (.iload 4, 2) := by decide +kernel
theorem dX11_countAll_71 : decode cX11_countAll 71 = .ok (.iaload, 1) := by decide +kernel
theorem dX11_countAll_72 : decode cX11_countAll 72 = .ok (.istore 6, 2) := by decide +kernel
theorem dX11_countAll_74 : decode cX11_countAll 74 = .ok (.iload_n 2, 1) := by decide +kernel
theorem dX11_countAll_75 : decode cX11_countAll 75 = .ok (.ifCond .eq 13, 3) := by decide +kernel
theorem dX11_countAll_78 : decode cX11_countAll 78 = .ok (.aload_n 0, 1) := by decide +kernel
theorem dX11_countAll_79 : decode cX11_countAll 79 = .ok (.getfield 69, 3) := by decide +kernel
theorem dX11_countAll_82 : decode cX11_countAll 82 = .ok (.iload 5, 2) := by decide +kernel
theorem dX11_countAll_84 : decode cX11_countAll 84 = .ok (.iaload, 1) := by decide +kernel
theorem dX11_countAll_85 : decode cX11_countAll 85 = .ok (.goto 4, 3) := by decide +kernel
theorem dX11_countAll_88 : decode cX11_countAll 88 = .ok (.iload_n 3, 1) := by decide +kernel
theorem dX11_countAll_89 : decode cX11_countAll 89 = .ok (.iload_n 1, 1) := by decide +kernel
theorem dX11_countAll_90 : decode cX11_countAll 90 = .ok (.invokestatic 118, 3) := by decide +kernel
theorem dX11_countAll_93 : decode cX11_countAll 93 = .ok (.istore 7, 2) := by decide +kernel
theorem dX11_countAll_95 : decode cX11_countAll 95 = .ok (.aload_n 0, 1) := by decide +kernel
theorem dX11_countAll_96 : decode cX11_countAll 96 = .ok (.getfield 66, 3) := by decide +kernel
theorem dX11_countAll_99 : decode cX11_countAll 99 = .ok (.iconst 2, 1) := by decide +kernel
theorem dX11_countAll_100 : decode cX11_countAll 100 = .ok (.sipush 256, 3) := by decide +kernel
theorem dX11_countAll_103 : decode cX11_countAll 103 = .ok (.iload 5, 2) := by decide +kernel
theorem dX11_countAll_105 : decode cX11_countAll 105 = .ok (.imul, 1) := by decide +kernel
theorem dX11_countAll_106 : decode cX11_countAll 106 = .ok (.iload 7, 2) := by decide +kernel
theorem dX11_countAll_108 : decode cX11_countAll 108 = .ok (.iadd, 1) := by decide +kernel
theorem dX11_countAll_109 : decode cX11_countAll 109 = .ok (.imul, 1) := by decide +kernel
theorem dX11_countAll_110 : decode cX11_countAll 110 = .ok (.iload 6, 2) := by decide +kernel
theorem dX11_countAll_112 : decode cX11_countAll 112 = .ok (.iadd, 1) := by decide +kernel
theorem dX11_countAll_113 : decode cX11_countAll 113 = .ok (.dup2, 1) := by decide +kernel
theorem dX11_countAll_114 : decode cX11_countAll 114 = .ok (.iaload, 1) := by decide +kernel
theorem dX11_countAll_115 : decode cX11_countAll 115 = .ok (.iconst 1, 1) := by decide +kernel
theorem dX11_countAll_116 : decode cX11_countAll 116 = .ok (.iadd, 1) := by decide +kernel
theorem dX11_countAll_117 : decode cX11_countAll 117 = .ok (.iastore, 1) := by decide +kernel
theorem dX11_countAll_118 : decode cX11_countAll 118 = .ok (.iload_n 3, 1) := by decide +kernel
theorem dX11_countAll_119 : decode cX11_countAll 119 = .ok (.iconst 1, 1) := by decide +kernel
theorem dX11_countAll_120 : decode cX11_countAll 120 = .ok (.ishl, 1) := by decide +kernel
theorem dX11_countAll_121 : decode cX11_countAll 121 = .ok (.ldc 148, 2) := by decide +kernel
theorem dX11_countAll_123 : decode cX11_countAll 123 = .ok (.iand, 1) := by decide +kernel
theorem dX11_countAll_124 : decode cX11_countAll 124 = .ok (.iload 6, 2) := by decide +kernel
theorem dX11_countAll_126 : decode cX11_countAll 126 = .ok (.ior, 1) := by decide +kernel
theorem dX11_countAll_127 : decode cX11_countAll 127 = .ok (.istore_n 3, 1) := by decide +kernel
theorem dX11_countAll_128 : decode cX11_countAll 128 = .ok (.aload_n 0, 1) := by decide +kernel
theorem dX11_countAll_129 : decode cX11_countAll 129 = .ok (.getfield 69, 3) := by decide +kernel
theorem dX11_countAll_132 : decode cX11_countAll 132 = .ok (.iload 5, 2) := by decide +kernel
theorem dX11_countAll_134 : decode cX11_countAll 134 = .ok (.aload_n 0, 1) := by decide +kernel
theorem dX11_countAll_135 : decode cX11_countAll 135 = .ok (.getfield 69, 3) := by decide +kernel
theorem dX11_countAll_138 : decode cX11_countAll 138 = .ok (.iload 5, 2) := by decide +kernel
theorem dX11_countAll_140 : decode cX11_countAll 140 = .ok (.iaload, 1) := by decide +kernel
theorem dX11_countAll_141 : decode cX11_countAll 141 = .ok (.iconst 1, 1) := by decide +kernel
theorem dX11_countAll_142 : decode cX11_countAll 142 = .ok (.ishl, 1) := by decide +kernel
theorem dX11_countAll_143 : decode cX11_countAll 143 = .ok (.ldc 148, 2) := by decide +kernel
theorem dX11_countAll_145 : decode cX11_countAll 145 = .ok (.iand, 1) := by decide +kernel
theorem dX11_countAll_146 : decode cX11_countAll 146 = .ok (.iload 6, 2) := by decide +kernel
theorem dX11_countAll_148 : decode cX11_countAll 148 = .ok (.ior, 1) := by decide +kernel
theorem dX11_countAll_149 : decode cX11_countAll 149 = .ok (.iastore, 1) := by decide +kernel
theorem dX11_countAll_150 : decode cX11_countAll 150 = .ok (.iinc 4 1, 3) := by decide +kernel
theorem dX11_countAll_153 : decode cX11_countAll 153 = .ok (.goto (-106), 3) := by decide +kernel
theorem dX11_countAll_156 : decode cX11_countAll 156 = .ok (.return_, 1) := by decide +kernel
theorem dX11_best_0 : decode cX11_best 0 = .ok (.iload_n 1, 1) := by decide +kernel
theorem dX11_best_1 : decode cX11_best 1 = .ok (.iconst 0, 1) := by decide +kernel
theorem dX11_best_2 : decode cX11_best 2 = .ok (.bipush 8, 2) := by decide +kernel
theorem dX11_best_4 : decode cX11_best 4 = .ok (.invokestatic 72, 3) := by decide +kernel
theorem dX11_best_7 : decode cX11_best 7 = .ok (.ifCond .ne 6, 3) := by decide +kernel
theorem dX11_best_10 : decode cX11_best 10 = .ok (.bipush (-2), 2) := by decide +kernel
theorem dX11_best_12 : decode cX11_best 12 = .ok (.ireturn, 1) := by decide +kernel
theorem dX11_best_13 : decode cX11_best 13 = .ok (.aload_n 0, 1) := by decide +kernel
theorem dX11_best_14 : decode cX11_best 14 = .ok (.iload_n 1, 1) := by decide +kernel
theorem dX11_best_15 : decode cX11_best 15 = .ok (.iload_n 2, 1) := by decide +kernel
theorem dX11_best_16 : decode cX11_best 16 = .ok (.invokevirtual 156, 3) := by decide +kernel
theorem dX11_best_19 : decode cX11_best 19 = .ok (.iconst 0, 1) := by decide +kernel
theorem dX11_best_20 : decode cX11_best 20 = .ok (.istore_n 3, 1) := by decide +kernel
theorem dX11_best_21 : decode cX11_best 21 = .ok (.iconst 0, 1) := by decide +kernel
theorem dX11_best_22 : decode cX11_best 22 = .ok (.istore 4, 2) := by decide +kernel
theorem dX11_best_24 : decode cX11_best 24 = .ok (.iload 4, 2) := by decide +kernel
theorem dX11_best_26 : decode cX11_best 26 = .ok (.ldc 65, 2) := by decide +kernel
theorem dX11_best_28 : decode cX11_best 28 = .ok (.if_icmp .ge 50, 3) := by decide +kernel
theorem dX11_best_31 : decode cX11_best 31 = .ok (.iload_n 3, 1) := by decide +kernel
theorem dX11_best_32 : decode cX11_best 32 = .ok (.aload_n 0, 1) := by decide +kernel
theorem dX11_best_33 : decode cX11_best 33 = .ok (.getfield 66, 3) := by decide +kernel
theorem dX11_best_36 : decode cX11_best 36 = .ok (.iload 4, 2) := by decide +kernel
theorem dX11_best_38 : decode cX11_best 38 = .ok (.iaload, 1) := by decide +kernel
theorem dX11_best_39 : decode cX11_best 39 = .ok (.aload_n 0, 1) := by decide +kernel
theorem dX11_best_40 : decode cX11_best 40 = .ok (.getfield 66, 3) := by decide +kernel
theorem dX11_best_43 : decode cX11_best 43 = .ok (.iload 4, 2) := by decide +kernel
theorem dX11_best_45 : decode cX11_best 45 = .ok (.iconst 1, 1) := by decide +kernel
theorem dX11_best_46 : decode cX11_best 46 = .ok (.iadd, 1) := by decide +kernel
theorem dX11_best_47 : decode cX11_best 47 = .ok (.iaload, 1) := by decide +kernel
theorem dX11_best_48 : decode cX11_best 48 = .ok (.if_icmp .ge 13, 3) := by decide +kernel
theorem dX11_best_51 : decode cX11_best 51 = .ok (.aload_n 0, 1) := by decide +kernel
theorem dX11_best_52 : decode cX11_best 52 = .ok (.getfield 66, 3) := by decide +kernel
theorem dX11_best_55 : decode cX11_best 55 = .ok (.iload 4, 2) := by decide +kernel
theorem dX11_best_57 : decode cX11_best 57 = .ok (.iaload, 1) := by decide +kernel
theorem dX11_best_58 : decode cX11_best 58 = .ok (.goto 12, 3) := by decide +kernel
theorem dX11_best_61 : decode cX11_best 61 = .ok (.aload_n 0, 1) := by decide +kernel
theorem dX11_best_62 : decode cX11_best 62 = .ok (.getfield 66, 3) := by decide +kernel
theorem dX11_best_65 : decode cX11_best 65 = .ok (.iload 4, 2) := by decide +kernel
theorem dX11_best_67 : decode cX11_best 67 = .ok (.iconst 1, 1) := by decide +kernel
theorem dX11_best_68 : decode cX11_best 68 = .ok (.iadd, 1) := by decide +kernel
theorem dX11_best_69 : decode cX11_best 69 = .ok (.iaload, 1) := by decide +kernel
theorem dX11_best_70 : decode cX11_best 70 = .ok (.iadd, 1) := by decide +kernel
theorem dX11_best_71 : decode cX11_best 71 = .ok (.istore_n 3, 1) := by decide +kernel
theorem dX11_best_72 : decode cX11_best 72 = .ok (.iinc 4 2, 3) := by decide +kernel
theorem dX11_best_75 : decode cX11_best 75 = .ok (.goto (-51), 3) := by decide +kernel
theorem dX11_best_78 : decode cX11_best 78 = .ok (.iload_n 3, 1) := by decide +kernel
theorem dX11_best_79 : decode cX11_best 79 = .ok (.ireturn, 1) := by decide +kernel
theorem dX11_seen_0 : decode cX11_seen 0 = .ok (.iload_n 1, 1) := by decide +kernel
theorem dX11_seen_1 : decode cX11_seen 1 = .ok (.iconst 0, 1) := by decide +kernel
theorem dX11_seen_2 : decode cX11_seen 2 = .ok (.bipush 8, 2) := by decide +kernel
theorem dX11_seen_4 : decode cX11_seen 4 = .ok (.invokestatic 72, 3) := by decide +kernel
theorem dX11_seen_7 : decode cX11_seen 7 = .ok (.ifCond .ne 6, 3) := by decide +kernel
theorem dX11_seen_10 : decode cX11_seen 10 = .ok (.bipush (-2), 2) := by decide +kernel
theorem dX11_seen_12 : decode cX11_seen 12 = .ok (.ireturn, 1) := by decide +kernel
theorem dX11_seen_13 : decode cX11_seen 13 = .ok (.aload_n 0, 1) := by decide +kernel
theorem dX11_seen_14 : decode cX11_seen 14 = .ok (.iload_n 1, 1) := by decide +kernel
theorem dX11_seen_15 : decode cX11_seen 15 = .ok (.iload_n 2, 1) := by decide +kernel
theorem dX11_seen_16 : decode cX11_seen 16 = .ok (.invokevirtual 156, 3) := by decide +kernel
theorem dX11_seen_19 : decode cX11_seen 19 = .ok (.iconst 0, 1) := by decide +kernel
theorem dX11_seen_20 : decode cX11_seen 20 = .ok (.istore_n 3, 1) := by decide +kernel
theorem dX11_seen_21 : decode cX11_seen 21 = .ok (.iconst 0, 1) := by decide +kernel
theorem dX11_seen_22 : decode cX11_seen 22 = .ok (.istore 4, 2) := by decide +kernel
theorem dX11_seen_24 : decode cX11_seen 24 = .ok (.iload 4, 2) := by decide +kernel
theorem dX11_seen_26 : decode cX11_seen 26 = .ok (.ldc 65, 2) := by decide +kernel
theorem dX11_seen_28 : decode cX11_seen 28 = .ok (.if_icmp .ge 37, 3) := by decide +kernel
theorem dX11_seen_31 : decode cX11_seen 31 = .ok (.iload_n 3, 1) := by decide +kernel
theorem dX11_seen_32 : decode cX11_seen 32 = .ok (.aload_n 0, 1) := by decide +kernel
theorem dX11_seen_33 : decode cX11_seen 33 = .ok (.getfield 66, 3) := by decide +kernel
theorem dX11_seen_36 : decode cX11_seen 36 = .ok (.iload 4, 2) := by decide +kernel
theorem dX11_seen_38 : decode cX11_seen 38 = .ok (.iaload, 1) := by decide +kernel
theorem dX11_seen_39 : decode cX11_seen 39 = .ok (.aload_n 0, 1) := by decide +kernel
theorem dX11_seen_40 : decode cX11_seen 40 = .ok (.getfield 66, 3) := by decide +kernel
theorem dX11_seen_43 : decode cX11_seen 43 = .ok (.iload 4, 2) := by decide +kernel
theorem dX11_seen_45 : decode cX11_seen 45 = .ok (.iconst 1, 1) := by decide +kernel
theorem dX11_seen_46 : decode cX11_seen 46 = .ok (.iadd, 1) := by decide +kernel
theorem dX11_seen_47 : decode cX11_seen 47 = .ok (.iaload, 1) := by decide +kernel
theorem dX11_seen_48 : decode cX11_seen 48 = .ok (.iadd, 1) := by decide +kernel
theorem dX11_seen_49 : decode cX11_seen 49 = .ok (.ifCond .le 7, 3) := by decide +kernel
theorem dX11_seen_52 : decode cX11_seen 52 = .ok (.iconst 1, 1) := by decide +kernel
theorem dX11_seen_53 : decode cX11_seen 53 = .ok (.goto 4, 3) := by decide +kernel
theorem dX11_seen_56 : decode cX11_seen 56 = .ok (.iconst 0, 1) := by decide +kernel
theorem dX11_seen_57 : decode cX11_seen 57 = .ok (.iadd, 1) := by decide +kernel
theorem dX11_seen_58 : decode cX11_seen 58 = .ok (.istore_n 3, 1) := by decide +kernel
theorem dX11_seen_59 : decode cX11_seen 59 = .ok (.iinc 4 2, 3) := by decide +kernel
theorem dX11_seen_62 : decode cX11_seen 62 = .ok (.goto (-38), 3) := by decide +kernel
theorem dX11_seen_65 : decode cX11_seen 65 = .ok (.iload_n 3, 1) := by decide +kernel
theorem dX11_seen_66 : decode cX11_seen 66 = .ok (.ireturn, 1) := by decide +kernel
theorem dX11_often_0 : decode cX11_often 0 = .ok (.iload_n 1, 1) := by decide +kernel
theorem dX11_often_1 : decode cX11_often 1 = .ok (.invokestatic 76, 3) := by decide +kernel
theorem dX11_often_4 : decode cX11_often 4 = .ok (.ifCond .ne 5, 3) := by decide +kernel
theorem dX11_often_7 : decode cX11_often 7 = .ok (.iconst (-1), 1) := by decide +kernel
theorem dX11_often_8 : decode cX11_often 8 = .ok (.ireturn, 1) := by decide +kernel
theorem dX11_often_9 : decode cX11_often 9 = .ok (.iload_n 2, 1) := by decide +kernel
theorem dX11_often_10 : decode cX11_often 10 = .ok (.iconst (-1), 1) := by decide +kernel
theorem dX11_often_11 : decode cX11_often 11 = .ok (.iconst 1, 1) := by decide +kernel
theorem dX11_often_12 : decode cX11_often 12 = .ok (.invokestatic 72, 3) := by decide +kernel
theorem dX11_often_15 : decode cX11_often 15 = .ok (.ifCond .eq 12, 3) := by decide +kernel
theorem dX11_often_18 : decode cX11_often 18 = .ok (.aload_n 0, 1) := by decide +kernel
theorem dX11_often_19 : decode cX11_often 19 = .ok (.iload_n 1, 1) := by decide +kernel
theorem dX11_often_20 : decode cX11_often 20 = .ok (.iload_n 2, 1) := by decide +kernel
theorem dX11_often_21 : decode cX11_often 21 = .ok (.invokevirtual 149, 3) := by decide +kernel
theorem dX11_often_24 : decode cX11_often 24 = .ok (.goto 5, 3) := by decide +kernel
theorem dX11_often_27 : decode cX11_often 27 = .ok (.bipush (-2), 2) := by decide +kernel
theorem dX11_often_29 : decode cX11_often 29 = .ok (.ireturn, 1) := by decide +kernel
theorem dX11_ticks_0 : decode cX11_ticks 0 = .ok (.aload_n 0, 1) := by decide +kernel
theorem dX11_ticks_1 : decode cX11_ticks 1 = .ok (.iload_n 1, 1) := by decide +kernel
theorem dX11_ticks_2 : decode cX11_ticks 2 = .ok (.invokevirtual 107, 3) := by decide +kernel
theorem dX11_ticks_5 : decode cX11_ticks 5 = .ok (.ifCond .ne 5, 3) := by decide +kernel
theorem dX11_ticks_8 : decode cX11_ticks 8 = .ok (.iconst (-1), 1) := by decide +kernel
theorem dX11_ticks_9 : decode cX11_ticks 9 = .ok (.ireturn, 1) := by decide +kernel
theorem dX11_ticks_10 : decode cX11_ticks 10 = .ok (.iload_n 2, 1) := by decide +kernel
theorem dX11_ticks_11 : decode cX11_ticks 11 = .ok (.iconst 0, 1) := by decide +kernel
theorem dX11_ticks_12 : decode cX11_ticks 12 = .ok (.bipush 100, 2) := by decide +kernel
theorem dX11_ticks_14 : decode cX11_ticks 14 = .ok (.invokestatic 72, 3) := by decide +kernel
theorem dX11_ticks_17 : decode cX11_ticks 17 = .ok (.ifCond .eq 18, 3) := by decide +kernel
theorem dX11_ticks_20 : decode cX11_ticks 20 = .ok (.aload_n 0, 1) := by decide +kernel
theorem dX11_ticks_21 : decode cX11_ticks 21 = .ok (.getfield 88, 3) := by decide +kernel
theorem dX11_ticks_24 : decode cX11_ticks 24 = .ok (.iload_n 2, 1) := by decide +kernel
theorem dX11_ticks_25 : decode cX11_ticks 25 = .ok (.aload_n 0, 1) := by decide +kernel
theorem dX11_ticks_26 : decode cX11_ticks 26 = .ok (.iload_n 1, 1) := by decide +kernel
theorem dX11_ticks_27 : decode cX11_ticks 27 = .ok (.invokevirtual 152, 3) := by decide +kernel
theorem dX11_ticks_30 : decode cX11_ticks 30 = .ok (.imul, 1) := by decide +kernel
theorem dX11_ticks_31 : decode cX11_ticks 31 = .ok (.iadd, 1) := by decide +kernel
theorem dX11_ticks_32 : decode cX11_ticks 32 = .ok (.goto 5, 3) := by decide +kernel
theorem dX11_ticks_35 : decode cX11_ticks 35 = .ok (.bipush (-2), 2) := by decide +kernel
theorem dX11_ticks_37 : decode cX11_ticks 37 = .ok (.ireturn, 1) := by decide +kernel
theorem dX11_told_0 : decode cX11_told 0 = .ok (.iload_n 1, 1) := by decide +kernel
theorem dX11_told_1 : decode cX11_told 1 = .ok (.tableswitch 60 0 4 #[35, 40, 45, 50, 55], 35) := by decide +kernel
theorem dX11_told_36 : decode cX11_told 36 = .ok (.aload_n 0, 1) := by decide +kernel
theorem dX11_told_37 : decode cX11_told 37 = .ok (.getfield 80, 3) := by decide +kernel
theorem dX11_told_40 : decode cX11_told 40 = .ok (.ireturn, 1) := by decide +kernel
theorem dX11_told_41 : decode cX11_told 41 = .ok (.aload_n 0, 1) := by decide +kernel
theorem dX11_told_42 : decode cX11_told 42 = .ok (.getfield 88, 3) := by decide +kernel
theorem dX11_told_45 : decode cX11_told 45 = .ok (.ireturn, 1) := by decide +kernel
theorem dX11_told_46 : decode cX11_told 46 = .ok (.aload_n 0, 1) := by decide +kernel
theorem dX11_told_47 : decode cX11_told 47 = .ok (.getfield 104, 3) := by decide +kernel
theorem dX11_told_50 : decode cX11_told 50 = .ok (.ireturn, 1) := by decide +kernel
theorem dX11_told_51 : decode cX11_told 51 = .ok (.aload_n 0, 1) := by decide +kernel
theorem dX11_told_52 : decode cX11_told 52 = .ok (.getfield 101, 3) := by decide +kernel
theorem dX11_told_55 : decode cX11_told 55 = .ok (.ireturn, 1) := by decide +kernel
theorem dX11_told_56 : decode cX11_told 56 = .ok (.aload_n 0, 1) := by decide +kernel
theorem dX11_told_57 : decode cX11_told 57 = .ok (.getfield 94, 3) := by decide +kernel
theorem dX11_told_60 : decode cX11_told 60 = .ok (.ireturn, 1) := by decide +kernel
theorem dX11_told_61 : decode cX11_told 61 = .ok (.bipush (-2), 2) := by decide +kernel
theorem dX11_told_63 : decode cX11_told 63 = .ok (.ireturn, 1) := by decide +kernel
theorem dX11_empty_0 : decode cX11_empty 0 = .ok (.aload_n 0, 1) := by decide +kernel
theorem dX11_empty_1 : decode cX11_empty 1 = .ok (.getfield 101, 3) := by decide +kernel
theorem dX11_empty_4 : decode cX11_empty 4 = .ok (.istore_n 1, 1) := by decide +kernel
theorem dX11_empty_5 : decode cX11_empty 5 = .ok (.aload_n 0, 1) := by decide +kernel
theorem dX11_empty_6 : decode cX11_empty 6 = .ok (.iconst 0, 1) := by decide +kernel
theorem dX11_empty_7 : decode cX11_empty 7 = .ok (.putfield 101, 3) := by decide +kernel
theorem dX11_empty_10 : decode cX11_empty 10 = .ok (.iload_n 1, 1) := by decide +kernel
theorem dX11_empty_11 : decode cX11_empty 11 = .ok (.ireturn, 1) := by decide +kernel
end
section
theorem dX0_init_0 : decode cX0_init 0 = .ok (.aload_n 0, 1) := by decide +kernel
theorem dX0_init_1 : decode cX0_init 1 = .ok (.iconst 1, 1) := by decide +kernel
theorem dX0_init_2 : decode cX0_init 2 = .ok (.iconst 1, 1) := by decide +kernel
theorem dX0_init_3 : decode cX0_init 3 = .ok (.iload 4, 2) := by decide +kernel
theorem dX0_init_5 : decode cX0_init 5 = .ok (.ishl, 1) := by decide +kernel
theorem dX0_init_6 : decode cX0_init 6 = .ok (.iconst 1, 1) := by decide +kernel
theorem dX0_init_7 : decode cX0_init 7 = .ok (.iload 4, 2) := by decide +kernel
theorem dX0_init_9 : decode cX0_init 9 = .ok (.ishl, 1) := by decide +kernel
theorem dX0_init_10 : decode cX0_init 10 = .ok (.iconst 1, 1) := by decide +kernel
theorem dX0_init_11 : decode cX0_init 11 = .ok (.invokespecial 1, 3) := by decide +kernel
theorem dX0_init_14 : decode cX0_init 14 = .ok (.aload_n 0, 1) := by decide +kernel
theorem dX0_init_15 : decode cX0_init 15 = .ok (.aload_n 1, 1) := by decide +kernel
theorem dX0_init_16 : decode cX0_init 16 = .ok (.putfield 7, 3) := by decide +kernel
theorem dX0_init_19 : decode cX0_init 19 = .ok (.aload_n 0, 1) := by decide +kernel
theorem dX0_init_20 : decode cX0_init 20 = .ok (.aload_n 2, 1) := by decide +kernel
theorem dX0_init_21 : decode cX0_init 21 = .ok (.putfield 13, 3) := by decide +kernel
theorem dX0_init_24 : decode cX0_init 24 = .ok (.aload_n 0, 1) := by decide +kernel
theorem dX0_init_25 : decode cX0_init 25 = .ok (.iload_n 3, 1) := by decide +kernel
theorem dX0_init_26 : decode cX0_init 26 = .ok (.putfield 16, 3) := by decide +kernel
theorem dX0_init_29 : decode cX0_init 29 = .ok (.aload_n 0, 1) := by decide +kernel
theorem dX0_init_30 : decode cX0_init 30 = .ok (.iload 4, 2) := by decide +kernel
theorem dX0_init_32 : decode cX0_init 32 = .ok (.invokestatic 20, 3) := by decide +kernel
theorem dX0_init_35 : decode cX0_init 35 = .ok (.putfield 26, 3) := by decide +kernel
theorem dX0_init_38 : decode cX0_init 38 = .ok (.return_, 1) := by decide +kernel
theorem dX0_asks_0 : decode cX0_asks 0 = .ok (.aload_n 0, 1) := by decide +kernel
theorem dX0_asks_1 : decode cX0_asks 1 = .ok (.getfield 16, 3) := by decide +kernel
theorem dX0_asks_4 : decode cX0_asks 4 = .ok (.ireturn, 1) := by decide +kernel
theorem dX0_slotOf_0 : decode cX0_slotOf 0 = .ok (.iload_n 1, 1) := by decide +kernel
theorem dX0_slotOf_1 : decode cX0_slotOf 1 = .ok (.aload_n 0, 1) := by decide +kernel
theorem dX0_slotOf_2 : decode cX0_slotOf 2 = .ok (.getfield 26, 3) := by decide +kernel
theorem dX0_slotOf_5 : decode cX0_slotOf 5 = .ok (.iand, 1) := by decide +kernel
theorem dX0_slotOf_6 : decode cX0_slotOf 6 = .ok (.ireturn, 1) := by decide +kernel
theorem dX0_ownWay_0 : decode cX0_ownWay 0 = .ok (.aload_n 0, 1) := by decide +kernel
theorem dX0_ownWay_1 : decode cX0_ownWay 1 = .ok (.getfield 29, 3) := by decide +kernel
theorem dX0_ownWay_4 : decode cX0_ownWay 4 = .ok (.aload_n 0, 1) := by decide +kernel
theorem dX0_ownWay_5 : decode cX0_ownWay 5 = .ok (.iload_n 1, 1) := by decide +kernel
theorem dX0_ownWay_6 : decode cX0_ownWay 6 = .ok (.invokevirtual 33, 3) := by decide +kernel
theorem dX0_ownWay_9 : decode cX0_ownWay 9 = .ok (.invokevirtual 36, 3) := by decide +kernel
theorem dX0_ownWay_12 : decode cX0_ownWay 12 = .ok (.iconst 1, 1) := by decide +kernel
theorem dX0_ownWay_13 : decode cX0_ownWay 13 = .ok (.if_icmp .ne 13, 3) := by decide +kernel
theorem dX0_ownWay_16 : decode cX0_ownWay 16 = .ok (.aload_n 0, 1) := by decide +kernel
theorem dX0_ownWay_17 : decode cX0_ownWay 17 = .ok (.getfield 13, 3) := by decide +kernel
theorem dX0_ownWay_20 : decode cX0_ownWay 20 = .ok (.getfield 41, 3) := by decide +kernel
theorem dX0_ownWay_23 : decode cX0_ownWay 23 = .ok (.goto 10, 3) := by decide +kernel
theorem dX0_ownWay_26 : decode cX0_ownWay 26 = .ok (.aload_n 0, 1) := by decide +kernel
theorem dX0_ownWay_27 : decode cX0_ownWay 27 = .ok (.getfield 7, 3) := by decide +kernel
theorem dX0_ownWay_30 : decode cX0_ownWay 30 = .ok (.getfield 41, 3) := by decide +kernel
theorem dX0_ownWay_33 : decode cX0_ownWay 33 = .ok (.ireturn, 1) := by decide +kernel
theorem dX0_learn_0 : decode cX0_learn 0 = .ok (.aload_n 0, 1) := by decide +kernel
theorem dX0_learn_1 : decode cX0_learn 1 = .ok (.getfield 7, 3) := by decide +kernel
theorem dX0_learn_4 : decode cX0_learn 4 = .ok (.getfield 41, 3) := by decide +kernel
theorem dX0_learn_7 : decode cX0_learn 7 = .ok (.aload_n 0, 1) := by decide +kernel
theorem dX0_learn_8 : decode cX0_learn 8 = .ok (.getfield 13, 3) := by decide +kernel
theorem dX0_learn_11 : decode cX0_learn 11 = .ok (.getfield 41, 3) := by decide +kernel
theorem dX0_learn_14 : decode cX0_learn 14 = .ok (.if_icmp .eq 31, 3) := by decide +kernel
theorem dX0_learn_17 : decode cX0_learn 17 = .ok (.aload_n 0, 1) := by decide +kernel
theorem dX0_learn_18 : decode cX0_learn 18 = .ok (.getfield 29, 3) := by decide +kernel
theorem dX0_learn_21 : decode cX0_learn 21 = .ok (.aload_n 0, 1) := by decide +kernel
theorem dX0_learn_22 : decode cX0_learn 22 = .ok (.iload_n 1, 1) := by decide +kernel
theorem dX0_learn_23 : decode cX0_learn 23 = .ok (.invokevirtual 33, 3) := by decide +kernel
theorem dX0_learn_26 : decode cX0_learn 26 = .ok (.aload_n 0, 1) := by decide +kernel
theorem dX0_learn_27 : decode cX0_learn 27 = .ok (.getfield 13, 3) := by decide +kernel
theorem dX0_learn_30 : decode cX0_learn 30 = .ok (.getfield 41, 3) := by decide +kernel
theorem dX0_learn_33 : decode cX0_learn 33 = .ok (.iload_n 2, 1) := by decide +kernel
theorem dX0_learn_34 : decode cX0_learn 34 = .ok (.if_icmp .ne 7, 3) := by decide +kernel
theorem dX0_learn_37 : decode cX0_learn 37 = .ok (.iconst 1, 1) := by decide +kernel
theorem dX0_learn_38 : decode cX0_learn 38 = .ok (.goto 4, 3) := by decide +kernel
theorem dX0_learn_41 : decode cX0_learn 41 = .ok (.iconst 0, 1) := by decide +kernel
theorem dX0_learn_42 : decode cX0_learn 42 = .ok (.invokevirtual 44, 3) := by decide +kernel
theorem dX0_learn_45 : decode cX0_learn 45 = .ok (.return_, 1) := by decide +kernel
theorem dX1_init_0 : decode cX1_init 0 = .ok (.aload_n 0, 1) := by decide +kernel
theorem dX1_init_1 : decode cX1_init 1 = .ok (.iconst 1, 1) := by decide +kernel
theorem dX1_init_2 : decode cX1_init 2 = .ok (.iconst 1, 1) := by decide +kernel
theorem dX1_init_3 : decode cX1_init 3 = .ok (.iload_n 1, 1) := by decide +kernel
theorem dX1_init_4 : decode cX1_init 4 = .ok (.ishl, 1) := by decide +kernel
theorem dX1_init_5 : decode cX1_init 5 = .ok (.iconst 1, 1) := by decide +kernel
theorem dX1_init_6 : decode cX1_init 6 = .ok (.iload_n 1, 1) := by decide +kernel
theorem dX1_init_7 : decode cX1_init 7 = .ok (.ishl, 1) := by decide +kernel
theorem dX1_init_8 : decode cX1_init 8 = .ok (.iconst 1, 1) := by decide +kernel
theorem dX1_init_9 : decode cX1_init 9 = .ok (.invokespecial 1, 3) := by decide +kernel
theorem dX1_init_12 : decode cX1_init 12 = .ok (.aload_n 0, 1) := by decide +kernel
theorem dX1_init_13 : decode cX1_init 13 = .ok (.iload_n 1, 1) := by decide +kernel
theorem dX1_init_14 : decode cX1_init 14 = .ok (.invokestatic 7, 3) := by decide +kernel
theorem dX1_init_17 : decode cX1_init 17 = .ok (.putfield 13, 3) := by decide +kernel
theorem dX1_init_20 : decode cX1_init 20 = .ok (.aload_n 0, 1) := by decide +kernel
theorem dX1_init_21 : decode cX1_init 21 = .ok (.iload_n 2, 1) := by decide +kernel
theorem dX1_init_22 : decode cX1_init 22 = .ok (.invokestatic 7, 3) := by decide +kernel
theorem dX1_init_25 : decode cX1_init 25 = .ok (.putfield 19, 3) := by decide +kernel
theorem dX1_init_28 : decode cX1_init 28 = .ok (.aload_n 0, 1) := by decide +kernel
theorem dX1_init_29 : decode cX1_init 29 = .ok (.iload_n 3, 1) := by decide +kernel
theorem dX1_init_30 : decode cX1_init 30 = .ok (.putfield 22, 3) := by decide +kernel
theorem dX1_init_33 : decode cX1_init 33 = .ok (.aload_n 0, 1) := by decide +kernel
theorem dX1_init_34 : decode cX1_init 34 = .ok (.iload 4, 2) := by decide +kernel
theorem dX1_init_36 : decode cX1_init 36 = .ok (.putfield 26, 3) := by decide +kernel
theorem dX1_init_39 : decode cX1_init 39 = .ok (.return_, 1) := by decide +kernel
theorem dX1_slotOf_0 : decode cX1_slotOf 0 = .ok (.aload_n 0, 1) := by decide +kernel
theorem dX1_slotOf_1 : decode cX1_slotOf 1 = .ok (.getfield 22, 3) := by decide +kernel
theorem dX1_slotOf_4 : decode cX1_slotOf 4 = .ok (.ifCond .eq 15, 3) := by decide +kernel
theorem dX1_slotOf_7 : decode cX1_slotOf 7 = .ok (.aload_n 0, 1) := by decide +kernel
theorem dX1_slotOf_8 : decode cX1_slotOf 8 = .ok (.getfield 29, 3) := by decide +kernel
theorem dX1_slotOf_11 : decode cX1_slotOf 11 = .ok (.getfield 33, 3) := by decide +kernel
theorem dX1_slotOf_14 : decode cX1_slotOf 14 = .ok (.iload_n 1, 1) := by decide +kernel
theorem dX1_slotOf_15 : decode cX1_slotOf 15 = .ok (.iaload, 1) := by decide +kernel
theorem dX1_slotOf_16 : decode cX1_slotOf 16 = .ok (.goto 10, 3) := by decide +kernel
theorem dX1_slotOf_19 : decode cX1_slotOf 19 = .ok (.aload_n 0, 1) := by decide +kernel
theorem dX1_slotOf_20 : decode cX1_slotOf 20 = .ok (.getfield 29, 3) := by decide +kernel
theorem dX1_slotOf_23 : decode cX1_slotOf 23 = .ok (.getfield 39, 3) := by decide +kernel
theorem dX1_slotOf_26 : decode cX1_slotOf 26 = .ok (.istore_n 2, 1) := by decide +kernel
theorem dX1_slotOf_27 : decode cX1_slotOf 27 = .ok (.iload_n 2, 1) := by decide +kernel
theorem dX1_slotOf_28 : decode cX1_slotOf 28 = .ok (.aload_n 0, 1) := by decide +kernel
theorem dX1_slotOf_29 : decode cX1_slotOf 29 = .ok (.getfield 19, 3) := by decide +kernel
theorem dX1_slotOf_32 : decode cX1_slotOf 32 = .ok (.iand, 1) := by decide +kernel
theorem dX1_slotOf_33 : decode cX1_slotOf 33 = .ok (.aload_n 0, 1) := by decide +kernel
theorem dX1_slotOf_34 : decode cX1_slotOf 34 = .ok (.getfield 26, 3) := by decide +kernel
theorem dX1_slotOf_37 : decode cX1_slotOf 37 = .ok (.iload_n 1, 1) := by decide +kernel
theorem dX1_slotOf_38 : decode cX1_slotOf 38 = .ok (.imul, 1) := by decide +kernel
theorem dX1_slotOf_39 : decode cX1_slotOf 39 = .ok (.ixor, 1) := by decide +kernel
theorem dX1_slotOf_40 : decode cX1_slotOf 40 = .ok (.aload_n 0, 1) := by decide +kernel
theorem dX1_slotOf_41 : decode cX1_slotOf 41 = .ok (.getfield 13, 3) := by decide +kernel
theorem dX1_slotOf_44 : decode cX1_slotOf 44 = .ok (.iand, 1) := by decide +kernel
theorem dX1_slotOf_45 : decode cX1_slotOf 45 = .ok (.ireturn, 1) := by decide +kernel
theorem dX1_ownWay_0 : decode cX1_ownWay 0 = .ok (.aload_n 0, 1) := by decide +kernel
theorem dX1_ownWay_1 : decode cX1_ownWay 1 = .ok (.getfield 29, 3) := by decide +kernel
theorem dX1_ownWay_4 : decode cX1_ownWay 4 = .ok (.aload_n 0, 1) := by decide +kernel
theorem dX1_ownWay_5 : decode cX1_ownWay 5 = .ok (.iload_n 1, 1) := by decide +kernel
theorem dX1_ownWay_6 : decode cX1_ownWay 6 = .ok (.invokevirtual 42, 3) := by decide +kernel
theorem dX1_ownWay_9 : decode cX1_ownWay 9 = .ok (.invokevirtual 45, 3) := by decide +kernel
theorem dX1_ownWay_12 : decode cX1_ownWay 12 = .ok (.ireturn, 1) := by decide +kernel
theorem dX1_learn_0 : decode cX1_learn 0 = .ok (.aload_n 0, 1) := by decide +kernel
theorem dX1_learn_1 : decode cX1_learn 1 = .ok (.getfield 29, 3) := by decide +kernel
theorem dX1_learn_4 : decode cX1_learn 4 = .ok (.aload_n 0, 1) := by decide +kernel
theorem dX1_learn_5 : decode cX1_learn 5 = .ok (.iload_n 1, 1) := by decide +kernel
theorem dX1_learn_6 : decode cX1_learn 6 = .ok (.invokevirtual 42, 3) := by decide +kernel
theorem dX1_learn_9 : decode cX1_learn 9 = .ok (.iload_n 2, 1) := by decide +kernel
theorem dX1_learn_10 : decode cX1_learn 10 = .ok (.invokevirtual 48, 3) := by decide +kernel
theorem dX1_learn_13 : decode cX1_learn 13 = .ok (.return_, 1) := by decide +kernel
theorem dX2_init_0 : decode cX2_init 0 = .ok (.aload_n 0, 1) := by decide +kernel
theorem dX2_init_1 : decode cX2_init 1 = .ok (.iconst 0, 1) := by decide +kernel
theorem dX2_init_2 : decode cX2_init 2 = .ok (.iconst 0, 1) := by decide +kernel
theorem dX2_init_3 : decode cX2_init 3 = .ok (.iconst 0, 1) := by decide +kernel
theorem dX2_init_4 : decode cX2_init 4 = .ok (.iconst 0, 1) := by decide +kernel
theorem dX2_init_5 : decode cX2_init 5 = .ok (.invokespecial 3, 3) := by decide +kernel
theorem dX2_init_8 : decode cX2_init 8 = .ok (.aload_n 0, 1) := by decide +kernel
theorem dX2_init_9 : decode cX2_init 9 = .ok (.aload_n 1, 1) := by decide +kernel
theorem dX2_init_10 : decode cX2_init 10 = .ok (.putfield 9, 3) := by decide +kernel
theorem dX2_init_13 : decode cX2_init 13 = .ok (.aload_n 0, 1) := by decide +kernel
theorem dX2_init_14 : decode cX2_init 14 = .ok (.iload_n 2, 1) := by decide +kernel
theorem dX2_init_15 : decode cX2_init 15 = .ok (.putfield 15, 3) := by decide +kernel
theorem dX2_init_18 : decode cX2_init 18 = .ok (.return_, 1) := by decide +kernel
theorem dX2_ownWay_0 : decode cX2_ownWay 0 = .ok (.aload_n 0, 1) := by decide +kernel
theorem dX2_ownWay_1 : decode cX2_ownWay 1 = .ok (.getfield 15, 3) := by decide +kernel
theorem dX2_ownWay_4 : decode cX2_ownWay 4 = .ok (.iconst 2, 1) := by decide +kernel
theorem dX2_ownWay_5 : decode cX2_ownWay 5 = .ok (.if_icmp .eq 8, 3) := by decide +kernel
theorem dX2_ownWay_8 : decode cX2_ownWay 8 = .ok (.aload_n 0, 1) := by decide +kernel
theorem dX2_ownWay_9 : decode cX2_ownWay 9 = .ok (.getfield 15, 3) := by decide +kernel
theorem dX2_ownWay_12 : decode cX2_ownWay 12 = .ok (.ireturn, 1) := by decide +kernel
theorem dX2_ownWay_13 : decode cX2_ownWay 13 = .ok (.aload_n 0, 1) := by decide +kernel
theorem dX2_ownWay_14 : decode cX2_ownWay 14 = .ok (.getfield 9, 3) := by decide +kernel
theorem dX2_ownWay_17 : decode cX2_ownWay 17 = .ok (.getfield 19, 3) := by decide +kernel
theorem dX2_ownWay_20 : decode cX2_ownWay 20 = .ok (.iload_n 1, 1) := by decide +kernel
theorem dX2_ownWay_21 : decode cX2_ownWay 21 = .ok (.iaload, 1) := by decide +kernel
theorem dX2_ownWay_22 : decode cX2_ownWay 22 = .ok (.iload_n 1, 1) := by decide +kernel
theorem dX2_ownWay_23 : decode cX2_ownWay 23 = .ok (.if_icmp .gt 7, 3) := by decide +kernel
theorem dX2_ownWay_26 : decode cX2_ownWay 26 = .ok (.iconst 1, 1) := by decide +kernel
theorem dX2_ownWay_27 : decode cX2_ownWay 27 = .ok (.goto 4, 3) := by decide +kernel
theorem dX2_ownWay_30 : decode cX2_ownWay 30 = .ok (.iconst 0, 1) := by decide +kernel
theorem dX2_ownWay_31 : decode cX2_ownWay 31 = .ok (.ireturn, 1) := by decide +kernel
theorem dX2_learn_0 : decode cX2_learn 0 = .ok (.return_, 1) := by decide +kernel
theorem dX2_slotOf_0 : decode cX2_slotOf 0 = .ok (.iconst (-1), 1) := by decide +kernel
theorem dX2_slotOf_1 : decode cX2_slotOf 1 = .ok (.ireturn, 1) := by decide +kernel
theorem dX2_look_0 : decode cX2_look 0 = .ok (.sipush (-1001), 3) := by decide +kernel
theorem dX2_look_3 : decode cX2_look 3 = .ok (.ireturn, 1) := by decide +kernel
theorem dX3_init_0 : decode cX3_init 0 = .ok (.aload_n 0, 1) := by decide +kernel
theorem dX3_init_1 : decode cX3_init 1 = .ok (.invokespecial 3, 3) := by decide +kernel
theorem dX3_init_4 : decode cX3_init 4 = .ok (.aload_n 0, 1) := by decide +kernel
theorem dX3_init_5 : decode cX3_init 5 = .ok (.bipush 64, 2) := by decide +kernel
theorem dX3_init_7 : decode cX3_init 7 = .ok (.newarray .int, 2) := by decide +kernel
theorem dX3_init_9 : decode cX3_init 9 = .ok (.putfield 9, 3) := by decide +kernel
theorem dX3_init_12 : decode cX3_init 12 = .ok (.aload_n 0, 1) := by decide +kernel
theorem dX3_init_13 : decode cX3_init 13 = .ok (.iconst 2, 1) := by decide +kernel
theorem dX3_init_14 : decode cX3_init 14 = .ok (.anewarray 15, 3) := by decide +kernel
theorem dX3_init_17 : decode cX3_init 17 = .ok (.putfield 17, 3) := by decide +kernel
theorem dX3_init_20 : decode cX3_init 20 = .ok (.aload_n 0, 1) := by decide +kernel
theorem dX3_init_21 : decode cX3_init 21 = .ok (.iload_n 1, 1) := by decide +kernel
theorem dX3_init_22 : decode cX3_init 22 = .ok (.putfield 21, 3) := by decide +kernel
theorem dX3_init_25 : decode cX3_init 25 = .ok (.aload_n 0, 1) := by decide +kernel
theorem dX3_init_26 : decode cX3_init 26 = .ok (.iload_n 2, 1) := by decide +kernel
theorem dX3_init_27 : decode cX3_init 27 = .ok (.putfield 25, 3) := by decide +kernel
theorem dX3_init_30 : decode cX3_init 30 = .ok (.aload_n 0, 1) := by decide +kernel
theorem dX3_init_31 : decode cX3_init 31 = .ok (.getfield 9, 3) := by decide +kernel
theorem dX3_init_34 : decode cX3_init 34 = .ok (.iconst (-1), 1) := by decide +kernel
theorem dX3_init_35 : decode cX3_init 35 = .ok (.invokestatic 28, 3) := by decide +kernel
theorem dX3_init_38 : decode cX3_init 38 = .ok (.aload_n 0, 1) := by decide +kernel
theorem dX3_init_39 : decode cX3_init 39 = .ok (.new 15, 3) := by decide +kernel
theorem dX3_init_42 : decode cX3_init 42 = .ok (.dup, 1) := by decide +kernel
theorem dX3_init_43 : decode cX3_init 43 = .ok (.iload_n 1, 1) := by decide +kernel
theorem dX3_init_44 : decode cX3_init 44 = .ok (.iload_n 2, 1) := by decide +kernel
theorem dX3_init_45 : decode cX3_init 45 = .ok (.imul, 1) := by decide +kernel
theorem dX3_init_46 : decode cX3_init 46 = .ok (.iload_n 3, 1) := by decide +kernel
theorem dX3_init_47 : decode cX3_init 47 = .ok (.invokespecial 34, 3) := by decide +kernel
theorem dX3_init_50 : decode cX3_init 50 = .ok (.putfield 37, 3) := by decide +kernel
theorem dX3_init_53 : decode cX3_init 53 = .ok (.aload_n 0, 1) := by decide +kernel
theorem dX3_init_54 : decode cX3_init 54 = .ok (.getfield 37, 3) := by decide +kernel
theorem dX3_init_57 : decode cX3_init 57 = .ok (.getfield 41, 3) := by decide +kernel
theorem dX3_init_60 : decode cX3_init 60 = .ok (.iload 4, 2) := by decide +kernel
theorem dX3_init_62 : decode cX3_init 62 = .ok (.invokestatic 28, 3) := by decide +kernel
theorem dX3_init_65 : decode cX3_init 65 = .ok (.aload_n 0, 1) := by decide +kernel
theorem dX3_init_66 : decode cX3_init 66 = .ok (.aload_n 0, 1) := by decide +kernel
theorem dX3_init_67 : decode cX3_init 67 = .ok (.getfield 37, 3) := by decide +kernel
theorem dX3_init_70 : decode cX3_init 70 = .ok (.invokevirtual 44, 3) := by decide +kernel
theorem dX3_init_73 : decode cX3_init 73 = .ok (.putfield 48, 3) := by decide +kernel
theorem dX3_init_76 : decode cX3_init 76 = .ok (.aload_n 0, 1) := by decide +kernel
theorem dX3_init_77 : decode cX3_init 77 = .ok (.getfield 48, 3) := by decide +kernel
theorem dX3_init_80 : decode cX3_init 80 = .ok (.aload_n 0, 1) := by decide +kernel
theorem dX3_init_81 : decode cX3_init 81 = .ok (.getfield 37, 3) := by decide +kernel
theorem dX3_init_84 : decode cX3_init 84 = .ok (.invokevirtual 51, 3) := by decide +kernel
theorem dX3_init_87 : decode cX3_init 87 = .ok (.return_, 1) := by decide +kernel
theorem dX3_asks_0 : decode cX3_asks 0 = .ok (.iconst 0, 1) := by decide +kernel
theorem dX3_asks_1 : decode cX3_asks 1 = .ok (.ireturn, 1) := by decide +kernel
theorem dX3_canClash_0 : decode cX3_canClash 0 = .ok (.aload_n 0, 1) := by decide +kernel
theorem dX3_canClash_1 : decode cX3_canClash 1 = .ok (.getfield 48, 3) := by decide +kernel
theorem dX3_canClash_4 : decode cX3_canClash 4 = .ok (.getfield 55, 3) := by decide +kernel
theorem dX3_canClash_7 : decode cX3_canClash 7 = .ok (.arraylength, 1) := by decide +kernel
theorem dX3_canClash_8 : decode cX3_canClash 8 = .ok (.ifCond .le 7, 3) := by decide +kernel
theorem dX3_canClash_11 : decode cX3_canClash 11 = .ok (.iconst 1, 1) := by decide +kernel
theorem dX3_canClash_12 : decode cX3_canClash 12 = .ok (.goto 4, 3) := by decide +kernel
theorem dX3_canClash_15 : decode cX3_canClash 15 = .ok (.iconst 0, 1) := by decide +kernel
theorem dX3_canClash_16 : decode cX3_canClash 16 = .ok (.ireturn, 1) := by decide +kernel
theorem dX3_say_0 : decode cX3_say 0 = .ok (.aload_n 0, 1) := by decide +kernel
theorem dX3_say_1 : decode cX3_say 1 = .ok (.aload_n 0, 1) := by decide +kernel
theorem dX3_say_2 : decode cX3_say 2 = .ok (.getfield 9, 3) := by decide +kernel
theorem dX3_say_5 : decode cX3_say 5 = .ok (.iload_n 1, 1) := by decide +kernel
theorem dX3_say_6 : decode cX3_say 6 = .ok (.iaload, 1) := by decide +kernel
theorem dX3_say_7 : decode cX3_say 7 = .ok (.iconst (-1), 1) := by decide +kernel
theorem dX3_say_8 : decode cX3_say 8 = .ok (.if_icmp .ne 11, 3) := by decide +kernel
theorem dX3_say_11 : decode cX3_say 11 = .ok (.aload_n 0, 1) := by decide +kernel
theorem dX3_say_12 : decode cX3_say 12 = .ok (.iload_n 1, 1) := by decide +kernel
theorem dX3_say_13 : decode cX3_say 13 = .ok (.invokevirtual 58, 3) := by decide +kernel
theorem dX3_say_16 : decode cX3_say 16 = .ok (.goto 9, 3) := by decide +kernel
theorem dX3_say_19 : decode cX3_say 19 = .ok (.aload_n 0, 1) := by decide +kernel
theorem dX3_say_20 : decode cX3_say 20 = .ok (.getfield 9, 3) := by decide +kernel
theorem dX3_say_23 : decode cX3_say 23 = .ok (.iload_n 1, 1) := by decide +kernel
theorem dX3_say_24 : decode cX3_say 24 = .ok (.iaload, 1) := by decide +kernel
theorem dX3_say_25 : decode cX3_say 25 = .ok (.putfield 62, 3) := by decide +kernel
theorem dX3_say_28 : decode cX3_say 28 = .ok (.return_, 1) := by decide +kernel
theorem dX3_meetBranch_0 : decode cX3_meetBranch 0 = .ok (.aload_n 0, 1) := by decide +kernel
theorem dX3_meetBranch_1 : decode cX3_meetBranch 1 = .ok (.iload_n 1, 1) := by decide +kernel
theorem dX3_meetBranch_2 : decode cX3_meetBranch 2 = .ok (.invokevirtual 65, 3) := by decide +kernel
theorem dX3_meetBranch_5 : decode cX3_meetBranch 5 = .ok (.aload_n 0, 1) := by decide +kernel
theorem dX3_meetBranch_6 : decode cX3_meetBranch 6 = .ok (.getfield 48, 3) := by decide +kernel
theorem dX3_meetBranch_9 : decode cX3_meetBranch 9 = .ok (.iload_n 1, 1) := by decide +kernel
theorem dX3_meetBranch_10 : decode cX3_meetBranch 10 = .ok (.aload_n 0, 1) := by decide +kernel
theorem dX3_meetBranch_11 : decode cX3_meetBranch 11 = .ok (.getfield 62, 3) := by decide +kernel
theorem dX3_meetBranch_14 : decode cX3_meetBranch 14 = .ok (.iload_n 2, 1) := by decide +kernel
theorem dX3_meetBranch_15 : decode cX3_meetBranch 15 = .ok (.if_icmp .eq 7, 3) := by decide +kernel
theorem dX3_meetBranch_18 : decode cX3_meetBranch 18 = .ok (.iconst 1, 1) := by decide +kernel
theorem dX3_meetBranch_19 : decode cX3_meetBranch 19 = .ok (.goto 4, 3) := by decide +kernel
theorem dX3_meetBranch_22 : decode cX3_meetBranch 22 = .ok (.iconst 0, 1) := by decide +kernel
theorem dX3_meetBranch_23 : decode cX3_meetBranch 23 = .ok (.invokevirtual 69, 3) := by decide +kernel
theorem dX3_meetBranch_26 : decode cX3_meetBranch 26 = .ok (.aload_n 0, 1) := by decide +kernel
theorem dX3_meetBranch_27 : decode cX3_meetBranch 27 = .ok (.iload_n 1, 1) := by decide +kernel
theorem dX3_meetBranch_28 : decode cX3_meetBranch 28 = .ok (.invokevirtual 73, 3) := by decide +kernel
theorem dX3_meetBranch_31 : decode cX3_meetBranch 31 = .ok (.istore_n 3, 1) := by decide +kernel
theorem dX3_meetBranch_32 : decode cX3_meetBranch 32 = .ok (.iload_n 3, 1) := by decide +kernel
theorem dX3_meetBranch_33 : decode cX3_meetBranch 33 = .ok (.iconst (-1), 1) := by decide +kernel
theorem dX3_meetBranch_34 : decode cX3_meetBranch 34 = .ok (.if_icmp .eq 12, 3) := by decide +kernel
theorem dX3_meetBranch_37 : decode cX3_meetBranch 37 = .ok (.aload_n 0, 1) := by decide +kernel
theorem dX3_meetBranch_38 : decode cX3_meetBranch 38 = .ok (.getfield 48, 3) := by decide +kernel
theorem dX3_meetBranch_41 : decode cX3_meetBranch 41 = .ok (.iload_n 3, 1) := by decide +kernel
theorem dX3_meetBranch_42 : decode cX3_meetBranch 42 = .ok (.iload_n 1, 1) := by decide +kernel
theorem dX3_meetBranch_43 : decode cX3_meetBranch 43 = .ok (.invokevirtual 76, 3) := by decide +kernel
theorem dX3_meetBranch_46 : decode cX3_meetBranch 46 = .ok (.aload_n 0, 1) := by decide +kernel
theorem dX3_meetBranch_47 : decode cX3_meetBranch 47 = .ok (.iload_n 1, 1) := by decide +kernel
theorem dX3_meetBranch_48 : decode cX3_meetBranch 48 = .ok (.iload_n 2, 1) := by decide +kernel
theorem dX3_meetBranch_49 : decode cX3_meetBranch 49 = .ok (.invokevirtual 79, 3) := by decide +kernel
theorem dX3_meetBranch_52 : decode cX3_meetBranch 52 = .ok (.aload_n 0, 1) := by decide +kernel
theorem dX3_meetBranch_53 : decode cX3_meetBranch 53 = .ok (.getfield 48, 3) := by decide +kernel
theorem dX3_meetBranch_56 : decode cX3_meetBranch 56 = .ok (.iload_n 1, 1) := by decide +kernel
theorem dX3_meetBranch_57 : decode cX3_meetBranch 57 = .ok (.iload_n 2, 1) := by decide +kernel
theorem dX3_meetBranch_58 : decode cX3_meetBranch 58 = .ok (.invokevirtual 82, 3) := by decide +kernel
theorem dX3_meetBranch_61 : decode cX3_meetBranch 61 = .ok (.return_, 1) := by decide +kernel
theorem dX3_forget_0 : decode cX3_forget 0 = .ok (.aload_n 0, 1) := by decide +kernel
theorem dX3_forget_1 : decode cX3_forget 1 = .ok (.getfield 48, 3) := by decide +kernel
theorem dX3_forget_4 : decode cX3_forget 4 = .ok (.aload_n 0, 1) := by decide +kernel
theorem dX3_forget_5 : decode cX3_forget 5 = .ok (.getfield 37, 3) := by decide +kernel
theorem dX3_forget_8 : decode cX3_forget 8 = .ok (.invokevirtual 51, 3) := by decide +kernel
theorem dX3_forget_11 : decode cX3_forget 11 = .ok (.return_, 1) := by decide +kernel
theorem dX3_look_0 : decode cX3_look 0 = .ok (.iload_n 1, 1) := by decide +kernel
theorem dX3_look_1 : decode cX3_look 1 = .ok (.iconst 0, 1) := by decide +kernel
theorem dX3_look_2 : decode cX3_look 2 = .ok (.aload_n 0, 1) := by decide +kernel
theorem dX3_look_3 : decode cX3_look 3 = .ok (.getfield 21, 3) := by decide +kernel
theorem dX3_look_6 : decode cX3_look 6 = .ok (.iconst 1, 1) := by decide +kernel
theorem dX3_look_7 : decode cX3_look 7 = .ok (.isub, 1) := by decide +kernel
theorem dX3_look_8 : decode cX3_look 8 = .ok (.invokestatic 85, 3) := by decide +kernel
theorem dX3_look_11 : decode cX3_look 11 = .ok (.ifCond .eq 17, 3) := by decide +kernel
theorem dX3_look_14 : decode cX3_look 14 = .ok (.iload_n 2, 1) := by decide +kernel
theorem dX3_look_15 : decode cX3_look 15 = .ok (.iconst 0, 1) := by decide +kernel
theorem dX3_look_16 : decode cX3_look 16 = .ok (.aload_n 0, 1) := by decide +kernel
theorem dX3_look_17 : decode cX3_look 17 = .ok (.getfield 25, 3) := by decide +kernel
theorem dX3_look_20 : decode cX3_look 20 = .ok (.iconst 1, 1) := by decide +kernel
theorem dX3_look_21 : decode cX3_look 21 = .ok (.isub, 1) := by decide +kernel
theorem dX3_look_22 : decode cX3_look 22 = .ok (.invokestatic 85, 3) := by decide +kernel
theorem dX3_look_25 : decode cX3_look 25 = .ok (.ifCond .ne 7, 3) := by decide +kernel
theorem dX3_look_28 : decode cX3_look 28 = .ok (.sipush (-1000), 3) := by decide +kernel
theorem dX3_look_31 : decode cX3_look 31 = .ok (.ireturn, 1) := by decide +kernel
theorem dX3_look_32 : decode cX3_look 32 = .ok (.aload_n 0, 1) := by decide +kernel
theorem dX3_look_33 : decode cX3_look 33 = .ok (.getfield 48, 3) := by decide +kernel
theorem dX3_look_36 : decode cX3_look 36 = .ok (.getfield 41, 3) := by decide +kernel
theorem dX3_look_39 : decode cX3_look 39 = .ok (.iload_n 1, 1) := by decide +kernel
theorem dX3_look_40 : decode cX3_look 40 = .ok (.aload_n 0, 1) := by decide +kernel
theorem dX3_look_41 : decode cX3_look 41 = .ok (.getfield 25, 3) := by decide +kernel
theorem dX3_look_44 : decode cX3_look 44 = .ok (.imul, 1) := by decide +kernel
theorem dX3_look_45 : decode cX3_look 45 = .ok (.iload_n 2, 1) := by decide +kernel
theorem dX3_look_46 : decode cX3_look 46 = .ok (.iadd, 1) := by decide +kernel
theorem dX3_look_47 : decode cX3_look 47 = .ok (.iaload, 1) := by decide +kernel
theorem dX3_look_48 : decode cX3_look 48 = .ok (.ireturn, 1) := by decide +kernel
theorem dX4_init_0 : decode cX4_init 0 = .ok (.aload_n 0, 1) := by decide +kernel
theorem dX4_init_1 : decode cX4_init 1 = .ok (.invokespecial 3, 3) := by decide +kernel
theorem dX4_init_4 : decode cX4_init 4 = .ok (.aload_n 0, 1) := by decide +kernel
theorem dX4_init_5 : decode cX4_init 5 = .ok (.bipush 64, 2) := by decide +kernel
theorem dX4_init_7 : decode cX4_init 7 = .ok (.newarray .int, 2) := by decide +kernel
theorem dX4_init_9 : decode cX4_init 9 = .ok (.putfield 9, 3) := by decide +kernel
theorem dX4_init_12 : decode cX4_init 12 = .ok (.aload_n 0, 1) := by decide +kernel
theorem dX4_init_13 : decode cX4_init 13 = .ok (.bipush 64, 2) := by decide +kernel
theorem dX4_init_15 : decode cX4_init 15 = .ok (.newarray .int, 2) := by decide +kernel
theorem dX4_init_17 : decode cX4_init 17 = .ok (.putfield 15, 3) := by decide +kernel
theorem dX4_init_20 : decode cX4_init 20 = .ok (.aload_n 0, 1) := by decide +kernel
theorem dX4_init_21 : decode cX4_init 21 = .ok (.bipush 40, 2) := by decide +kernel
theorem dX4_init_23 : decode cX4_init 23 = .ok (.newarray .int, 2) := by decide +kernel
theorem dX4_init_25 : decode cX4_init 25 = .ok (.putfield 18, 3) := by decide +kernel
theorem dX4_init_28 : decode cX4_init 28 = .ok (.aload_n 0, 1) := by decide +kernel
theorem dX4_init_29 : decode cX4_init 29 = .ok (.iload_n 1, 1) := by decide +kernel
theorem dX4_init_30 : decode cX4_init 30 = .ok (.newarray .int, 2) := by decide +kernel
theorem dX4_init_32 : decode cX4_init 32 = .ok (.putfield 21, 3) := by decide +kernel
theorem dX4_init_35 : decode cX4_init 35 = .ok (.aload_n 0, 1) := by decide +kernel
theorem dX4_init_36 : decode cX4_init 36 = .ok (.iload_n 2, 1) := by decide +kernel
theorem dX4_init_37 : decode cX4_init 37 = .ok (.newarray .int, 2) := by decide +kernel
theorem dX4_init_39 : decode cX4_init 39 = .ok (.putfield 24, 3) := by decide +kernel
theorem dX4_init_42 : decode cX4_init 42 = .ok (.aload_n 0, 1) := by decide +kernel
theorem dX4_init_43 : decode cX4_init 43 = .ok (.getfield 24, 3) := by decide +kernel
theorem dX4_init_46 : decode cX4_init 46 = .ok (.bipush (-6), 2) := by decide +kernel
theorem dX4_init_48 : decode cX4_init 48 = .ok (.invokestatic 27, 3) := by decide +kernel
theorem dX4_init_51 : decode cX4_init 51 = .ok (.return_, 1) := by decide +kernel
theorem dX4_twin_0 : decode cX4_twin 0 = .ok (.new 10, 3) := by decide +kernel
theorem dX4_twin_3 : decode cX4_twin 3 = .ok (.dup, 1) := by decide +kernel
theorem dX4_twin_4 : decode cX4_twin 4 = .ok (.aload_n 0, 1) := by decide +kernel
theorem dX4_twin_5 : decode cX4_twin 5 = .ok (.getfield 21, 3) := by decide +kernel
theorem dX4_twin_8 : decode cX4_twin 8 = .ok (.arraylength, 1) := by decide +kernel
theorem dX4_twin_9 : decode cX4_twin 9 = .ok (.aload_n 0, 1) := by decide +kernel
theorem dX4_twin_10 : decode cX4_twin 10 = .ok (.getfield 24, 3) := by decide +kernel
theorem dX4_twin_13 : decode cX4_twin 13 = .ok (.arraylength, 1) := by decide +kernel
theorem dX4_twin_14 : decode cX4_twin 14 = .ok (.invokespecial 33, 3) := by decide +kernel
theorem dX4_twin_17 : decode cX4_twin 17 = .ok (.areturn, 1) := by decide +kernel
theorem dX4_take_0 : decode cX4_take 0 = .ok (.aload_n 1, 1) := by decide +kernel
theorem dX4_take_1 : decode cX4_take 1 = .ok (.getfield 21, 3) := by decide +kernel
theorem dX4_take_4 : decode cX4_take 4 = .ok (.iconst 0, 1) := by decide +kernel
theorem dX4_take_5 : decode cX4_take 5 = .ok (.aload_n 0, 1) := by decide +kernel
theorem dX4_take_6 : decode cX4_take 6 = .ok (.getfield 21, 3) := by decide +kernel
theorem dX4_take_9 : decode cX4_take 9 = .ok (.iconst 0, 1) := by decide +kernel
theorem dX4_take_10 : decode cX4_take 10 = .ok (.aload_n 0, 1) := by decide +kernel
theorem dX4_take_11 : decode cX4_take 11 = .ok (.getfield 21, 3) := by decide +kernel
theorem dX4_take_14 : decode cX4_take 14 = .ok (.arraylength, 1) := by decide +kernel
theorem dX4_take_15 : decode cX4_take 15 = .ok (.aload_n 1, 1) := by decide +kernel
theorem dX4_take_16 : decode cX4_take 16 = .ok (.getfield 21, 3) := by decide +kernel
theorem dX4_take_19 : decode cX4_take 19 = .ok (.arraylength, 1) := by decide +kernel
theorem dX4_take_20 : decode cX4_take 20 = .ok (.invokestatic 36, 3) := by decide +kernel
theorem dX4_take_23 : decode cX4_take 23 = .ok (.invokestatic 42, 3) := by decide +kernel
theorem dX4_take_26 : decode cX4_take 26 = .ok (.aload_n 1, 1) := by decide +kernel
theorem dX4_take_27 : decode cX4_take 27 = .ok (.getfield 24, 3) := by decide +kernel
theorem dX4_take_30 : decode cX4_take 30 = .ok (.iconst 0, 1) := by decide +kernel
theorem dX4_take_31 : decode cX4_take 31 = .ok (.aload_n 0, 1) := by decide +kernel
theorem dX4_take_32 : decode cX4_take 32 = .ok (.getfield 24, 3) := by decide +kernel
theorem dX4_take_35 : decode cX4_take 35 = .ok (.iconst 0, 1) := by decide +kernel
theorem dX4_take_36 : decode cX4_take 36 = .ok (.aload_n 0, 1) := by decide +kernel
theorem dX4_take_37 : decode cX4_take 37 = .ok (.getfield 24, 3) := by decide +kernel
theorem dX4_take_40 : decode cX4_take 40 = .ok (.arraylength, 1) := by decide +kernel
theorem dX4_take_41 : decode cX4_take 41 = .ok (.aload_n 1, 1) := by decide +kernel
theorem dX4_take_42 : decode cX4_take 42 = .ok (.getfield 24, 3) := by decide +kernel
theorem dX4_take_45 : decode cX4_take 45 = .ok (.arraylength, 1) := by decide +kernel
theorem dX4_take_46 : decode cX4_take 46 = .ok (.invokestatic 36, 3) := by decide +kernel
theorem dX4_take_49 : decode cX4_take 49 = .ok (.invokestatic 42, 3) := by decide +kernel
theorem dX4_take_52 : decode cX4_take 52 = .ok (.aload_n 1, 1) := by decide +kernel
theorem dX4_take_53 : decode cX4_take 53 = .ok (.getfield 9, 3) := by decide +kernel
theorem dX4_take_56 : decode cX4_take 56 = .ok (.iconst 0, 1) := by decide +kernel
theorem dX4_take_57 : decode cX4_take 57 = .ok (.aload_n 0, 1) := by decide +kernel
theorem dX4_take_58 : decode cX4_take 58 = .ok (.getfield 9, 3) := by decide +kernel
theorem dX4_take_61 : decode cX4_take 61 = .ok (.iconst 0, 1) := by decide +kernel
theorem dX4_take_62 : decode cX4_take 62 = .ok (.bipush 64, 2) := by decide +kernel
theorem dX4_take_64 : decode cX4_take 64 = .ok (.invokestatic 42, 3) := by decide +kernel
theorem dX4_take_67 : decode cX4_take 67 = .ok (.aload_n 1, 1) := by decide +kernel
theorem dX4_take_68 : decode cX4_take 68 = .ok (.getfield 15, 3) := by decide +kernel
theorem dX4_take_71 : decode cX4_take 71 = .ok (.iconst 0, 1) := by decide +kernel
theorem dX4_take_72 : decode cX4_take 72 = .ok (.aload_n 0, 1) := by decide +kernel
theorem dX4_take_73 : decode cX4_take 73 = .ok (.getfield 15, 3) := by decide +kernel
theorem dX4_take_76 : decode cX4_take 76 = .ok (.iconst 0, 1) := by decide +kernel
theorem dX4_take_77 : decode cX4_take 77 = .ok (.bipush 64, 2) := by decide +kernel
theorem dX4_take_79 : decode cX4_take 79 = .ok (.invokestatic 42, 3) := by decide +kernel
theorem dX4_take_82 : decode cX4_take 82 = .ok (.aload_n 1, 1) := by decide +kernel
theorem dX4_take_83 : decode cX4_take 83 = .ok (.getfield 18, 3) := by decide +kernel
theorem dX4_take_86 : decode cX4_take 86 = .ok (.iconst 0, 1) := by decide +kernel
theorem dX4_take_87 : decode cX4_take 87 = .ok (.aload_n 0, 1) := by decide +kernel
theorem dX4_take_88 : decode cX4_take 88 = .ok (.getfield 18, 3) := by decide +kernel
theorem dX4_take_91 : decode cX4_take 91 = .ok (.iconst 0, 1) := by decide +kernel
theorem dX4_take_92 : decode cX4_take 92 = .ok (.bipush 40, 2) := by decide +kernel
theorem dX4_take_94 : decode cX4_take 94 = .ok (.invokestatic 42, 3) := by decide +kernel
theorem dX4_take_97 : decode cX4_take 97 = .ok (.aload_n 0, 1) := by decide +kernel
theorem dX4_take_98 : decode cX4_take 98 = .ok (.aload_n 1, 1) := by decide +kernel
theorem dX4_take_99 : decode cX4_take 99 = .ok (.getfield 48, 3) := by decide +kernel
theorem dX4_take_102 : decode cX4_take 102 = .ok (.putfield 48, 3) := by decide +kernel
theorem dX4_take_105 : decode cX4_take 105 = .ok (.aload_n 0, 1) := by decide +kernel
theorem dX4_take_106 : decode cX4_take 106 = .ok (.aload_n 1, 1) := by decide +kernel
theorem dX4_take_107 : decode cX4_take 107 = .ok (.getfield 52, 3) := by decide +kernel
theorem dX4_take_110 : decode cX4_take 110 = .ok (.putfield 52, 3) := by decide +kernel
theorem dX4_take_113 : decode cX4_take 113 = .ok (.aload_n 0, 1) := by decide +kernel
theorem dX4_take_114 : decode cX4_take 114 = .ok (.aload_n 1, 1) := by decide +kernel
theorem dX4_take_115 : decode cX4_take 115 = .ok (.getfield 55, 3) := by decide +kernel
theorem dX4_take_118 : decode cX4_take 118 = .ok (.putfield 55, 3) := by decide +kernel
theorem dX4_take_121 : decode cX4_take 121 = .ok (.aload_n 0, 1) := by decide +kernel
theorem dX4_take_122 : decode cX4_take 122 = .ok (.aload_n 1, 1) := by decide +kernel
theorem dX4_take_123 : decode cX4_take 123 = .ok (.getfield 58, 3) := by decide +kernel
theorem dX4_take_126 : decode cX4_take 126 = .ok (.putfield 58, 3) := by decide +kernel
theorem dX4_take_129 : decode cX4_take 129 = .ok (.aload_n 0, 1) := by decide +kernel
theorem dX4_take_130 : decode cX4_take 130 = .ok (.aload_n 1, 1) := by decide +kernel
theorem dX4_take_131 : decode cX4_take 131 = .ok (.getfield 61, 3) := by decide +kernel
theorem dX4_take_134 : decode cX4_take 134 = .ok (.putfield 61, 3) := by decide +kernel
theorem dX4_take_137 : decode cX4_take 137 = .ok (.return_, 1) := by decide +kernel
theorem dX4_countAsked_0 : decode cX4_countAsked 0 = .ok (.aload_n 0, 1) := by decide +kernel
theorem dX4_countAsked_1 : decode cX4_countAsked 1 = .ok (.dup, 1) := by decide +kernel
theorem dX4_countAsked_2 : decode cX4_countAsked 2 = .ok (.getfield 52, 3) := by decide +kernel
theorem dX4_countAsked_5 : decode cX4_countAsked 5 = .ok (.iconst 1, 1) := by decide +kernel
theorem dX4_countAsked_6 : decode cX4_countAsked 6 = .ok (.iadd, 1) := by decide +kernel
theorem dX4_countAsked_7 : decode cX4_countAsked 7 = .ok (.putfield 52, 3) := by decide +kernel
theorem dX4_countAsked_10 : decode cX4_countAsked 10 = .ok (.iload_n 2, 1) := by decide +kernel
theorem dX4_countAsked_11 : decode cX4_countAsked 11 = .ok (.ifCond .ne 4, 3) := by decide +kernel
theorem dX4_countAsked_14 : decode cX4_countAsked 14 = .ok (.return_, 1) := by decide +kernel
theorem dX4_countAsked_15 : decode cX4_countAsked 15 = .ok (.aload_n 0, 1) := by decide +kernel
theorem dX4_countAsked_16 : decode cX4_countAsked 16 = .ok (.dup, 1) := by decide +kernel
theorem dX4_countAsked_17 : decode cX4_countAsked 17 = .ok (.getfield 55, 3) := by decide +kernel
theorem dX4_countAsked_20 : decode cX4_countAsked 20 = .ok (.iconst 1, 1) := by decide +kernel
theorem dX4_countAsked_21 : decode cX4_countAsked 21 = .ok (.iadd, 1) := by decide +kernel
theorem dX4_countAsked_22 : decode cX4_countAsked 22 = .ok (.putfield 55, 3) := by decide +kernel
theorem dX4_countAsked_25 : decode cX4_countAsked 25 = .ok (.aload_n 0, 1) := by decide +kernel
theorem dX4_countAsked_26 : decode cX4_countAsked 26 = .ok (.getfield 15, 3) := by decide +kernel
theorem dX4_countAsked_29 : decode cX4_countAsked 29 = .ok (.iload_n 1, 1) := by decide +kernel
theorem dX4_countAsked_30 : decode cX4_countAsked 30 = .ok (.dup2, 1) := by decide +kernel
theorem dX4_countAsked_31 : decode cX4_countAsked 31 = .ok (.iaload, 1) := by decide +kernel
theorem dX4_countAsked_32 : decode cX4_countAsked 32 = .ok (.iconst 1, 1) := by decide +kernel
theorem dX4_countAsked_33 : decode cX4_countAsked 33 = .ok (.iadd, 1) := by decide +kernel
theorem dX4_countAsked_34 : decode cX4_countAsked 34 = .ok (.iastore, 1) := by decide +kernel
theorem dX4_countAsked_35 : decode cX4_countAsked 35 = .ok (.return_, 1) := by decide +kernel
theorem dX4_useSlot_0 : decode cX4_useSlot 0 = .ok (.aload_n 0, 1) := by decide +kernel
theorem dX4_useSlot_1 : decode cX4_useSlot 1 = .ok (.getfield 24, 3) := by decide +kernel
theorem dX4_useSlot_4 : decode cX4_useSlot 4 = .ok (.iload_n 1, 1) := by decide +kernel
theorem dX4_useSlot_5 : decode cX4_useSlot 5 = .ok (.iaload, 1) := by decide +kernel
theorem dX4_useSlot_6 : decode cX4_useSlot 6 = .ok (.istore_n 3, 1) := by decide +kernel
theorem dX4_useSlot_7 : decode cX4_useSlot 7 = .ok (.aload_n 0, 1) := by decide +kernel
theorem dX4_useSlot_8 : decode cX4_useSlot 8 = .ok (.getfield 24, 3) := by decide +kernel
theorem dX4_useSlot_11 : decode cX4_useSlot 11 = .ok (.iload_n 1, 1) := by decide +kernel
theorem dX4_useSlot_12 : decode cX4_useSlot 12 = .ok (.iload_n 2, 1) := by decide +kernel
theorem dX4_useSlot_13 : decode cX4_useSlot 13 = .ok (.iastore, 1) := by decide +kernel
theorem dX4_useSlot_14 : decode cX4_useSlot 14 = .ok (.iload_n 3, 1) := by decide +kernel
theorem dX4_useSlot_15 : decode cX4_useSlot 15 = .ok (.bipush (-6), 2) := by decide +kernel
theorem dX4_useSlot_17 : decode cX4_useSlot 17 = .ok (.if_icmp .eq 8, 3) := by decide +kernel
theorem dX4_useSlot_20 : decode cX4_useSlot 20 = .ok (.iload_n 3, 1) := by decide +kernel
theorem dX4_useSlot_21 : decode cX4_useSlot 21 = .ok (.iload_n 2, 1) := by decide +kernel
theorem dX4_useSlot_22 : decode cX4_useSlot 22 = .ok (.if_icmp .ne 4, 3) := by decide +kernel
theorem dX4_useSlot_25 : decode cX4_useSlot 25 = .ok (.return_, 1) := by decide +kernel
theorem dX4_useSlot_26 : decode cX4_useSlot 26 = .ok (.aload_n 0, 1) := by decide +kernel
theorem dX4_useSlot_27 : decode cX4_useSlot 27 = .ok (.dup, 1) := by decide +kernel
theorem dX4_useSlot_28 : decode cX4_useSlot 28 = .ok (.getfield 58, 3) := by decide +kernel
theorem dX4_useSlot_31 : decode cX4_useSlot 31 = .ok (.iconst 1, 1) := by decide +kernel
theorem dX4_useSlot_32 : decode cX4_useSlot 32 = .ok (.iadd, 1) := by decide +kernel
theorem dX4_useSlot_33 : decode cX4_useSlot 33 = .ok (.putfield 58, 3) := by decide +kernel
theorem dX4_useSlot_36 : decode cX4_useSlot 36 = .ok (.aload_n 0, 1) := by decide +kernel
theorem dX4_useSlot_37 : decode cX4_useSlot 37 = .ok (.bipush 64, 2) := by decide +kernel
theorem dX4_useSlot_39 : decode cX4_useSlot 39 = .ok (.iload_n 3, 1) := by decide +kernel
theorem dX4_useSlot_40 : decode cX4_useSlot 40 = .ok (.iload_n 2, 1) := by decide +kernel
theorem dX4_useSlot_41 : decode cX4_useSlot 41 = .ok (.invokestatic 36, 3) := by decide +kernel
theorem dX4_useSlot_44 : decode cX4_useSlot 44 = .ok (.imul, 1) := by decide +kernel
theorem dX4_useSlot_45 : decode cX4_useSlot 45 = .ok (.iload_n 3, 1) := by decide +kernel
theorem dX4_useSlot_46 : decode cX4_useSlot 46 = .ok (.iload_n 2, 1) := by decide +kernel
theorem dX4_useSlot_47 : decode cX4_useSlot 47 = .ok (.invokestatic 64, 3) := by decide +kernel
theorem dX4_useSlot_50 : decode cX4_useSlot 50 = .ok (.iadd, 1) := by decide +kernel
theorem dX4_useSlot_51 : decode cX4_useSlot 51 = .ok (.invokevirtual 67, 3) := by decide +kernel
theorem dX4_useSlot_54 : decode cX4_useSlot 54 = .ok (.return_, 1) := by decide +kernel
theorem dX4_keepPair_0 : decode cX4_keepPair 0 = .ok (.iconst 0, 1) := by decide +kernel
theorem dX4_keepPair_1 : decode cX4_keepPair 1 = .ok (.istore_n 2, 1) := by decide +kernel
theorem dX4_keepPair_2 : decode cX4_keepPair 2 = .ok (.iload_n 2, 1) := by decide +kernel
theorem dX4_keepPair_3 : decode cX4_keepPair 3 = .ok (.aload_n 0, 1) := by decide +kernel
theorem dX4_keepPair_4 : decode cX4_keepPair 4 = .ok (.getfield 61, 3) := by decide +kernel
theorem dX4_keepPair_7 : decode cX4_keepPair 7 = .ok (.if_icmp .ge 20, 3) := by decide +kernel
theorem dX4_keepPair_10 : decode cX4_keepPair 10 = .ok (.aload_n 0, 1) := by decide +kernel
theorem dX4_keepPair_11 : decode cX4_keepPair 11 = .ok (.getfield 18, 3) := by decide +kernel
theorem dX4_keepPair_14 : decode cX4_keepPair 14 = .ok (.iload_n 2, 1) := by decide +kernel
theorem dX4_keepPair_15 : decode cX4_keepPair 15 = .ok (.iaload, 1) := by decide +kernel
theorem dX4_keepPair_16 : decode cX4_keepPair 16 = .ok (.iload_n 1, 1) := by decide +kernel
theorem dX4_keepPair_17 : decode cX4_keepPair 17 = .ok (.if_icmp .ne 4, 3) := by decide +kernel
theorem dX4_keepPair_20 : decode cX4_keepPair 20 = .ok (.return_, 1) := by decide +kernel
theorem dX4_keepPair_21 : decode cX4_keepPair 21 = .ok (.iinc 2 1, 3) := by decide +kernel
theorem dX4_keepPair_24 : decode cX4_keepPair 24 = .ok (.goto (-22), 3) := by decide +kernel
theorem dX4_keepPair_27 : decode cX4_keepPair 27 = .ok (.aload_n 0, 1) := by decide +kernel
theorem dX4_keepPair_28 : decode cX4_keepPair 28 = .ok (.getfield 61, 3) := by decide +kernel
theorem dX4_keepPair_31 : decode cX4_keepPair 31 = .ok (.bipush 40, 2) := by decide +kernel
theorem dX4_keepPair_33 : decode cX4_keepPair 33 = .ok (.if_icmp .lt 4, 3) := by decide +kernel
theorem dX4_keepPair_36 : decode cX4_keepPair 36 = .ok (.return_, 1) := by decide +kernel
theorem dX4_keepPair_37 : decode cX4_keepPair 37 = .ok (.aload_n 0, 1) := by decide +kernel
theorem dX4_keepPair_38 : decode cX4_keepPair 38 = .ok (.getfield 18, 3) := by decide +kernel
theorem dX4_keepPair_41 : decode cX4_keepPair 41 = .ok (.aload_n 0, 1) := by decide +kernel
theorem dX4_keepPair_42 : decode cX4_keepPair 42 = .ok (.getfield 61, 3) := by decide +kernel
theorem dX4_keepPair_45 : decode cX4_keepPair 45 = .ok (.iload_n 1, 1) := by decide +kernel
theorem dX4_keepPair_46 : decode cX4_keepPair 46 = .ok (.iastore, 1) := by decide +kernel
theorem dX4_keepPair_47 : decode cX4_keepPair 47 = .ok (.aload_n 0, 1) := by decide +kernel
theorem dX4_keepPair_48 : decode cX4_keepPair 48 = .ok (.dup, 1) := by decide +kernel
theorem dX4_keepPair_49 : decode cX4_keepPair 49 = .ok (.getfield 61, 3) := by decide +kernel
theorem dX4_keepPair_52 : decode cX4_keepPair 52 = .ok (.iconst 1, 1) := by decide +kernel
theorem dX4_keepPair_53 : decode cX4_keepPair 53 = .ok (.iadd, 1) := by decide +kernel
theorem dX4_keepPair_54 : decode cX4_keepPair 54 = .ok (.putfield 61, 3) := by decide +kernel
theorem dX4_keepPair_57 : decode cX4_keepPair 57 = .ok (.return_, 1) := by decide +kernel
theorem dX4_addWay_0 : decode cX4_addWay 0 = .ok (.aload_n 0, 1) := by decide +kernel
theorem dX4_addWay_1 : decode cX4_addWay 1 = .ok (.aload_n 0, 1) := by decide +kernel
theorem dX4_addWay_2 : decode cX4_addWay 2 = .ok (.getfield 48, 3) := by decide +kernel
theorem dX4_addWay_5 : decode cX4_addWay 5 = .ok (.iconst 1, 1) := by decide +kernel
theorem dX4_addWay_6 : decode cX4_addWay 6 = .ok (.ishl, 1) := by decide +kernel
theorem dX4_addWay_7 : decode cX4_addWay 7 = .ok (.iload_n 2, 1) := by decide +kernel
theorem dX4_addWay_8 : decode cX4_addWay 8 = .ok (.ior, 1) := by decide +kernel
theorem dX4_addWay_9 : decode cX4_addWay 9 = .ok (.bipush 8, 2) := by decide +kernel
theorem dX4_addWay_11 : decode cX4_addWay 11 = .ok (.invokestatic 71, 3) := by decide +kernel
theorem dX4_addWay_14 : decode cX4_addWay 14 = .ok (.iand, 1) := by decide +kernel
theorem dX4_addWay_15 : decode cX4_addWay 15 = .ok (.putfield 48, 3) := by decide +kernel
theorem dX4_addWay_18 : decode cX4_addWay 18 = .ok (.aload_n 0, 1) := by decide +kernel
theorem dX4_addWay_19 : decode cX4_addWay 19 = .ok (.getfield 9, 3) := by decide +kernel
theorem dX4_addWay_22 : decode cX4_addWay 22 = .ok (.iload_n 1, 1) := by decide +kernel
theorem dX4_addWay_23 : decode cX4_addWay 23 = .ok (.aload_n 0, 1) := by decide +kernel
theorem dX4_addWay_24 : decode cX4_addWay 24 = .ok (.getfield 9, 3) := by decide +kernel
theorem dX4_addWay_27 : decode cX4_addWay 27 = .ok (.iload_n 1, 1) := by decide +kernel
theorem dX4_addWay_28 : decode cX4_addWay 28 = .ok (.iaload, 1) := by decide +kernel
theorem dX4_addWay_29 : decode cX4_addWay 29 = .ok (.iconst 1, 1) := by decide +kernel
theorem dX4_addWay_30 : decode cX4_addWay 30 = .ok (.ishl, 1) := by decide +kernel
theorem dX4_addWay_31 : decode cX4_addWay 31 = .ok (.iload_n 2, 1) := by decide +kernel
theorem dX4_addWay_32 : decode cX4_addWay 32 = .ok (.ior, 1) := by decide +kernel
theorem dX4_addWay_33 : decode cX4_addWay 33 = .ok (.bipush 8, 2) := by decide +kernel
theorem dX4_addWay_35 : decode cX4_addWay 35 = .ok (.invokestatic 71, 3) := by decide +kernel
theorem dX4_addWay_38 : decode cX4_addWay 38 = .ok (.iand, 1) := by decide +kernel
theorem dX4_addWay_39 : decode cX4_addWay 39 = .ok (.iastore, 1) := by decide +kernel
theorem dX4_addWay_40 : decode cX4_addWay 40 = .ok (.return_, 1) := by decide +kernel
theorem dX4_counterWay_0 : decode cX4_counterWay 0 = .ok (.aload_n 0, 1) := by decide +kernel
theorem dX4_counterWay_1 : decode cX4_counterWay 1 = .ok (.getfield 21, 3) := by decide +kernel
theorem dX4_counterWay_4 : decode cX4_counterWay 4 = .ok (.iload_n 1, 1) := by decide +kernel
theorem dX4_counterWay_5 : decode cX4_counterWay 5 = .ok (.iaload, 1) := by decide +kernel
theorem dX4_counterWay_6 : decode cX4_counterWay 6 = .ok (.iconst 2, 1) := by decide +kernel
theorem dX4_counterWay_7 : decode cX4_counterWay 7 = .ok (.if_icmp .lt 7, 3) := by decide +kernel
theorem dX4_counterWay_10 : decode cX4_counterWay 10 = .ok (.iconst 1, 1) := by decide +kernel
theorem dX4_counterWay_11 : decode cX4_counterWay 11 = .ok (.goto 4, 3) := by decide +kernel
theorem dX4_counterWay_14 : decode cX4_counterWay 14 = .ok (.iconst 0, 1) := by decide +kernel
theorem dX4_counterWay_15 : decode cX4_counterWay 15 = .ok (.ireturn, 1) := by decide +kernel
theorem dX4_teachCounter_0 : decode cX4_teachCounter 0 = .ok (.aload_n 0, 1) := by decide +kernel
theorem dX4_teachCounter_1 : decode cX4_teachCounter 1 = .ok (.getfield 21, 3) := by decide +kernel
theorem dX4_teachCounter_4 : decode cX4_teachCounter 4 = .ok (.iload_n 1, 1) := by decide +kernel
theorem dX4_teachCounter_5 : decode cX4_teachCounter 5 = .ok (.iload_n 2, 1) := by decide +kernel
theorem dX4_teachCounter_6 : decode cX4_teachCounter 6 = .ok (.iconst 1, 1) := by decide +kernel
theorem dX4_teachCounter_7 : decode cX4_teachCounter 7 = .ok (.if_icmp .ne 18, 3) := by decide +kernel
theorem dX4_teachCounter_10 : decode cX4_teachCounter 10 = .ok (.aload_n 0, 1) := by decide +kernel
theorem dX4_teachCounter_11 : decode cX4_teachCounter 11 = .ok (.getfield 21, 3) := by decide +kernel
theorem dX4_teachCounter_14 : decode cX4_teachCounter 14 = .ok (.iload_n 1, 1) := by decide +kernel
theorem dX4_teachCounter_15 : decode cX4_teachCounter 15 = .ok (.iaload, 1) := by decide +kernel
theorem dX4_teachCounter_16 : decode cX4_teachCounter 16 = .ok (.iconst 1, 1) := by decide +kernel
theorem dX4_teachCounter_17 : decode cX4_teachCounter 17 = .ok (.iadd, 1) := by decide +kernel
theorem dX4_teachCounter_18 : decode cX4_teachCounter 18 = .ok (.iconst 3, 1) := by decide +kernel
theorem dX4_teachCounter_19 : decode cX4_teachCounter 19 = .ok (.invokestatic 36, 3) := by decide +kernel
theorem dX4_teachCounter_22 : decode cX4_teachCounter 22 = .ok (.goto 15, 3) := by decide +kernel
theorem dX4_teachCounter_25 : decode cX4_teachCounter 25 = .ok (.aload_n 0, 1) := by decide +kernel
theorem dX4_teachCounter_26 : decode cX4_teachCounter 26 = .ok (.getfield 21, 3) := by decide +kernel
theorem dX4_teachCounter_29 : decode cX4_teachCounter 29 = .ok (.iload_n 1, 1) := by decide +kernel
theorem dX4_teachCounter_30 : decode cX4_teachCounter 30 = .ok (.iaload, 1) := by decide +kernel
theorem dX4_teachCounter_31 : decode cX4_teachCounter 31 = .ok (.iconst 1, 1) := by decide +kernel
theorem dX4_teachCounter_32 : decode cX4_teachCounter 32 = .ok (.isub, 1) := by decide +kernel
theorem dX4_teachCounter_33 : decode cX4_teachCounter 33 = .ok (.iconst 0, 1) := by decide +kernel
theorem dX4_teachCounter_34 : decode cX4_teachCounter 34 = .ok (.invokestatic 64, 3) := by decide +kernel
theorem dX4_teachCounter_37 : decode cX4_teachCounter 37 = .ok (.iastore, 1) := by decide +kernel
theorem dX4_teachCounter_38 : decode cX4_teachCounter 38 = .ok (.return_, 1) := by decide +kernel
theorem dX5_init_0 : decode cX5_init 0 = .ok (.aload_n 0, 1) := by decide +kernel
theorem dX5_init_1 : decode cX5_init 1 = .ok (.bipush 64, 2) := by decide +kernel
theorem dX5_init_3 : decode cX5_init 3 = .ok (.iconst 3, 1) := by decide +kernel
theorem dX5_init_4 : decode cX5_init 4 = .ok (.iconst 0, 1) := by decide +kernel
theorem dX5_init_5 : decode cX5_init 5 = .ok (.iconst 0, 1) := by decide +kernel
theorem dX5_init_6 : decode cX5_init 6 = .ok (.invokespecial 5, 3) := by decide +kernel
theorem dX5_init_9 : decode cX5_init 9 = .ok (.aload_n 0, 1) := by decide +kernel
theorem dX5_init_10 : decode cX5_init 10 = .ok (.iload_n 1, 1) := by decide +kernel
theorem dX5_init_11 : decode cX5_init 11 = .ok (.putfield 11, 3) := by decide +kernel
theorem dX5_init_14 : decode cX5_init 14 = .ok (.iconst 0, 1) := by decide +kernel
theorem dX5_init_15 : decode cX5_init 15 = .ok (.istore_n 2, 1) := by decide +kernel
theorem dX5_init_16 : decode cX5_init 16 = .ok (.iload_n 2, 1) := by decide +kernel
theorem dX5_init_17 : decode cX5_init 17 = .ok (.bipush 64, 2) := by decide +kernel
theorem dX5_init_19 : decode cX5_init 19 = .ok (.if_icmp .ge 23, 3) := by decide +kernel
theorem dX5_init_22 : decode cX5_init 22 = .ok (.aload_n 0, 1) := by decide +kernel
theorem dX5_init_23 : decode cX5_init 23 = .ok (.getfield 15, 3) := by decide +kernel
theorem dX5_init_26 : decode cX5_init 26 = .ok (.getfield 19, 3) := by decide +kernel
theorem dX5_init_29 : decode cX5_init 29 = .ok (.iload_n 2, 1) := by decide +kernel
theorem dX5_init_30 : decode cX5_init 30 = .ok (.iconst 3, 1) := by decide +kernel
theorem dX5_init_31 : decode cX5_init 31 = .ok (.imul, 1) := by decide +kernel
theorem dX5_init_32 : decode cX5_init 32 = .ok (.iconst 1, 1) := by decide +kernel
theorem dX5_init_33 : decode cX5_init 33 = .ok (.iadd, 1) := by decide +kernel
theorem dX5_init_34 : decode cX5_init 34 = .ok (.iconst (-1), 1) := by decide +kernel
theorem dX5_init_35 : decode cX5_init 35 = .ok (.iastore, 1) := by decide +kernel
theorem dX5_init_36 : decode cX5_init 36 = .ok (.iinc 2 1, 3) := by decide +kernel
theorem dX5_init_39 : decode cX5_init 39 = .ok (.goto (-23), 3) := by decide +kernel
theorem dX5_init_42 : decode cX5_init 42 = .ok (.aload_n 0, 1) := by decide +kernel
theorem dX5_init_43 : decode cX5_init 43 = .ok (.getfield 25, 3) := by decide +kernel
theorem dX5_init_46 : decode cX5_init 46 = .ok (.aload_n 0, 1) := by decide +kernel
theorem dX5_init_47 : decode cX5_init 47 = .ok (.getfield 15, 3) := by decide +kernel
theorem dX5_init_50 : decode cX5_init 50 = .ok (.invokevirtual 28, 3) := by decide +kernel
theorem dX5_init_53 : decode cX5_init 53 = .ok (.return_, 1) := by decide +kernel
theorem dX5_ownWay_0 : decode cX5_ownWay 0 = .ok (.iload_n 1, 1) := by decide +kernel
theorem dX5_ownWay_1 : decode cX5_ownWay 1 = .ok (.iconst 3, 1) := by decide +kernel
theorem dX5_ownWay_2 : decode cX5_ownWay 2 = .ok (.imul, 1) := by decide +kernel
theorem dX5_ownWay_3 : decode cX5_ownWay 3 = .ok (.istore_n 2, 1) := by decide +kernel
theorem dX5_ownWay_4 : decode cX5_ownWay 4 = .ok (.aload_n 0, 1) := by decide +kernel
theorem dX5_ownWay_5 : decode cX5_ownWay 5 = .ok (.getfield 25, 3) := by decide +kernel
theorem dX5_ownWay_8 : decode cX5_ownWay 8 = .ok (.getfield 19, 3) := by decide +kernel
theorem dX5_ownWay_11 : decode cX5_ownWay 11 = .ok (.iload_n 2, 1) := by decide +kernel
theorem dX5_ownWay_12 : decode cX5_ownWay 12 = .ok (.iconst 2, 1) := by decide +kernel
theorem dX5_ownWay_13 : decode cX5_ownWay 13 = .ok (.iadd, 1) := by decide +kernel
theorem dX5_ownWay_14 : decode cX5_ownWay 14 = .ok (.iaload, 1) := by decide +kernel
theorem dX5_ownWay_15 : decode cX5_ownWay 15 = .ok (.aload_n 0, 1) := by decide +kernel
theorem dX5_ownWay_16 : decode cX5_ownWay 16 = .ok (.getfield 11, 3) := by decide +kernel
theorem dX5_ownWay_19 : decode cX5_ownWay 19 = .ok (.if_icmp .lt 7, 3) := by decide +kernel
theorem dX5_ownWay_22 : decode cX5_ownWay 22 = .ok (.iconst 1, 1) := by decide +kernel
theorem dX5_ownWay_23 : decode cX5_ownWay 23 = .ok (.goto 4, 3) := by decide +kernel
theorem dX5_ownWay_26 : decode cX5_ownWay 26 = .ok (.iconst 0, 1) := by decide +kernel
theorem dX5_ownWay_27 : decode cX5_ownWay 27 = .ok (.istore_n 3, 1) := by decide +kernel
theorem dX5_ownWay_28 : decode cX5_ownWay 28 = .ok (.iload_n 3, 1) := by decide +kernel
theorem dX5_ownWay_29 : decode cX5_ownWay 29 = .ok (.ifCond .eq 32, 3) := by decide +kernel
theorem dX5_ownWay_32 : decode cX5_ownWay 32 = .ok (.aload_n 0, 1) := by decide +kernel
theorem dX5_ownWay_33 : decode cX5_ownWay 33 = .ok (.getfield 25, 3) := by decide +kernel
theorem dX5_ownWay_36 : decode cX5_ownWay 36 = .ok (.getfield 19, 3) := by decide +kernel
theorem dX5_ownWay_39 : decode cX5_ownWay 39 = .ok (.iload_n 2, 1) := by decide +kernel
theorem dX5_ownWay_40 : decode cX5_ownWay 40 = .ok (.iconst 0, 1) := by decide +kernel
theorem dX5_ownWay_41 : decode cX5_ownWay 41 = .ok (.iadd, 1) := by decide +kernel
theorem dX5_ownWay_42 : decode cX5_ownWay 42 = .ok (.iaload, 1) := by decide +kernel
theorem dX5_ownWay_43 : decode cX5_ownWay 43 = .ok (.aload_n 0, 1) := by decide +kernel
theorem dX5_ownWay_44 : decode cX5_ownWay 44 = .ok (.getfield 25, 3) := by decide +kernel
theorem dX5_ownWay_47 : decode cX5_ownWay 47 = .ok (.getfield 19, 3) := by decide +kernel
theorem dX5_ownWay_50 : decode cX5_ownWay 50 = .ok (.iload_n 2, 1) := by decide +kernel
theorem dX5_ownWay_51 : decode cX5_ownWay 51 = .ok (.iconst 1, 1) := by decide +kernel
theorem dX5_ownWay_52 : decode cX5_ownWay 52 = .ok (.iadd, 1) := by decide +kernel
theorem dX5_ownWay_53 : decode cX5_ownWay 53 = .ok (.iaload, 1) := by decide +kernel
theorem dX5_ownWay_54 : decode cX5_ownWay 54 = .ok (.if_icmp .ne 7, 3) := by decide +kernel
theorem dX5_ownWay_57 : decode cX5_ownWay 57 = .ok (.iconst 0, 1) := by decide +kernel
theorem dX5_ownWay_58 : decode cX5_ownWay 58 = .ok (.goto 4, 3) := by decide +kernel
theorem dX5_ownWay_61 : decode cX5_ownWay 61 = .ok (.iconst 1, 1) := by decide +kernel
theorem dX5_ownWay_62 : decode cX5_ownWay 62 = .ok (.ireturn, 1) := by decide +kernel
theorem dX5_learn_0 : decode cX5_learn 0 = .ok (.iload_n 1, 1) := by decide +kernel
theorem dX5_learn_1 : decode cX5_learn 1 = .ok (.iconst 3, 1) := by decide +kernel
theorem dX5_learn_2 : decode cX5_learn 2 = .ok (.imul, 1) := by decide +kernel
theorem dX5_learn_3 : decode cX5_learn 3 = .ok (.istore_n 3, 1) := by decide +kernel
theorem dX5_learn_4 : decode cX5_learn 4 = .ok (.aload_n 0, 1) := by decide +kernel
theorem dX5_learn_5 : decode cX5_learn 5 = .ok (.getfield 25, 3) := by decide +kernel
theorem dX5_learn_8 : decode cX5_learn 8 = .ok (.getfield 19, 3) := by decide +kernel
theorem dX5_learn_11 : decode cX5_learn 11 = .ok (.iload_n 3, 1) := by decide +kernel
theorem dX5_learn_12 : decode cX5_learn 12 = .ok (.iconst 0, 1) := by decide +kernel
theorem dX5_learn_13 : decode cX5_learn 13 = .ok (.iadd, 1) := by decide +kernel
theorem dX5_learn_14 : decode cX5_learn 14 = .ok (.iaload, 1) := by decide +kernel
theorem dX5_learn_15 : decode cX5_learn 15 = .ok (.istore 4, 2) := by decide +kernel
theorem dX5_learn_17 : decode cX5_learn 17 = .ok (.iload_n 2, 1) := by decide +kernel
theorem dX5_learn_18 : decode cX5_learn 18 = .ok (.iconst 1, 1) := by decide +kernel
theorem dX5_learn_19 : decode cX5_learn 19 = .ok (.if_icmp .ne 25, 3) := by decide +kernel
theorem dX5_learn_22 : decode cX5_learn 22 = .ok (.aload_n 0, 1) := by decide +kernel
theorem dX5_learn_23 : decode cX5_learn 23 = .ok (.getfield 25, 3) := by decide +kernel
theorem dX5_learn_26 : decode cX5_learn 26 = .ok (.getfield 19, 3) := by decide +kernel
theorem dX5_learn_29 : decode cX5_learn 29 = .ok (.iload_n 3, 1) := by decide +kernel
theorem dX5_learn_30 : decode cX5_learn 30 = .ok (.iconst 0, 1) := by decide +kernel
theorem dX5_learn_31 : decode cX5_learn 31 = .ok (.iadd, 1) := by decide +kernel
theorem dX5_learn_32 : decode cX5_learn 32 = .ok (.iload 4, 2) := by decide +kernel
theorem dX5_learn_34 : decode cX5_learn 34 = .ok (.iconst 1, 1) := by decide +kernel
theorem dX5_learn_35 : decode cX5_learn 35 = .ok (.iadd, 1) := by decide +kernel
theorem dX5_learn_36 : decode cX5_learn 36 = .ok (.sipush 255, 3) := by decide +kernel
theorem dX5_learn_39 : decode cX5_learn 39 = .ok (.invokestatic 32, 3) := by decide +kernel
theorem dX5_learn_42 : decode cX5_learn 42 = .ok (.iastore, 1) := by decide +kernel
theorem dX5_learn_43 : decode cX5_learn 43 = .ok (.return_, 1) := by decide +kernel
theorem dX5_learn_44 : decode cX5_learn 44 = .ok (.iload 4, 2) := by decide +kernel
theorem dX5_learn_46 : decode cX5_learn 46 = .ok (.aload_n 0, 1) := by decide +kernel
theorem dX5_learn_47 : decode cX5_learn 47 = .ok (.getfield 25, 3) := by decide +kernel
theorem dX5_learn_50 : decode cX5_learn 50 = .ok (.getfield 19, 3) := by decide +kernel
theorem dX5_learn_53 : decode cX5_learn 53 = .ok (.iload_n 3, 1) := by decide +kernel
theorem dX5_learn_54 : decode cX5_learn 54 = .ok (.iconst 1, 1) := by decide +kernel
theorem dX5_learn_55 : decode cX5_learn 55 = .ok (.iadd, 1) := by decide +kernel
theorem dX5_learn_56 : decode cX5_learn 56 = .ok (.iaload, 1) := by decide +kernel
theorem dX5_learn_57 : decode cX5_learn 57 = .ok (.if_icmp .ne 7, 3) := by decide +kernel
theorem dX5_learn_60 : decode cX5_learn 60 = .ok (.iconst 1, 1) := by decide +kernel
theorem dX5_learn_61 : decode cX5_learn 61 = .ok (.goto 4, 3) := by decide +kernel
theorem dX5_learn_64 : decode cX5_learn 64 = .ok (.iconst 0, 1) := by decide +kernel
theorem dX5_learn_65 : decode cX5_learn 65 = .ok (.istore 5, 2) := by decide +kernel
theorem dX5_learn_67 : decode cX5_learn 67 = .ok (.aload_n 0, 1) := by decide +kernel
theorem dX5_learn_68 : decode cX5_learn 68 = .ok (.getfield 25, 3) := by decide +kernel
theorem dX5_learn_71 : decode cX5_learn 71 = .ok (.getfield 19, 3) := by decide +kernel
theorem dX5_learn_74 : decode cX5_learn 74 = .ok (.iload_n 3, 1) := by decide +kernel
theorem dX5_learn_75 : decode cX5_learn 75 = .ok (.iconst 2, 1) := by decide +kernel
theorem dX5_learn_76 : decode cX5_learn 76 = .ok (.iadd, 1) := by decide +kernel
theorem dX5_learn_77 : decode cX5_learn 77 = .ok (.iload 5, 2) := by decide +kernel
theorem dX5_learn_79 : decode cX5_learn 79 = .ok (.ifCond .eq 23, 3) := by decide +kernel
theorem dX5_learn_82 : decode cX5_learn 82 = .ok (.aload_n 0, 1) := by decide +kernel
theorem dX5_learn_83 : decode cX5_learn 83 = .ok (.getfield 25, 3) := by decide +kernel
theorem dX5_learn_86 : decode cX5_learn 86 = .ok (.getfield 19, 3) := by decide +kernel
theorem dX5_learn_89 : decode cX5_learn 89 = .ok (.iload_n 3, 1) := by decide +kernel
theorem dX5_learn_90 : decode cX5_learn 90 = .ok (.iconst 2, 1) := by decide +kernel
theorem dX5_learn_91 : decode cX5_learn 91 = .ok (.iadd, 1) := by decide +kernel
theorem dX5_learn_92 : decode cX5_learn 92 = .ok (.iaload, 1) := by decide +kernel
theorem dX5_learn_93 : decode cX5_learn 93 = .ok (.iconst 1, 1) := by decide +kernel
theorem dX5_learn_94 : decode cX5_learn 94 = .ok (.iadd, 1) := by decide +kernel
theorem dX5_learn_95 : decode cX5_learn 95 = .ok (.iconst 3, 1) := by decide +kernel
theorem dX5_learn_96 : decode cX5_learn 96 = .ok (.invokestatic 32, 3) := by decide +kernel
theorem dX5_learn_99 : decode cX5_learn 99 = .ok (.goto 4, 3) := by decide +kernel
theorem dX5_learn_102 : decode cX5_learn 102 = .ok (.iconst 0, 1) := by decide +kernel
theorem dX5_learn_103 : decode cX5_learn 103 = .ok (.iastore, 1) := by decide +kernel
theorem dX5_learn_104 : decode cX5_learn 104 = .ok (.aload_n 0, 1) := by decide +kernel
theorem dX5_learn_105 : decode cX5_learn 105 = .ok (.getfield 25, 3) := by decide +kernel
theorem dX5_learn_108 : decode cX5_learn 108 = .ok (.getfield 19, 3) := by decide +kernel
theorem dX5_learn_111 : decode cX5_learn 111 = .ok (.iload_n 3, 1) := by decide +kernel
theorem dX5_learn_112 : decode cX5_learn 112 = .ok (.iconst 1, 1) := by decide +kernel
theorem dX5_learn_113 : decode cX5_learn 113 = .ok (.iadd, 1) := by decide +kernel
theorem dX5_learn_114 : decode cX5_learn 114 = .ok (.iload 4, 2) := by decide +kernel
theorem dX5_learn_116 : decode cX5_learn 116 = .ok (.iastore, 1) := by decide +kernel
theorem dX5_learn_117 : decode cX5_learn 117 = .ok (.aload_n 0, 1) := by decide +kernel
theorem dX5_learn_118 : decode cX5_learn 118 = .ok (.getfield 25, 3) := by decide +kernel
theorem dX5_learn_121 : decode cX5_learn 121 = .ok (.getfield 19, 3) := by decide +kernel
theorem dX5_learn_124 : decode cX5_learn 124 = .ok (.iload_n 3, 1) := by decide +kernel
theorem dX5_learn_125 : decode cX5_learn 125 = .ok (.iconst 0, 1) := by decide +kernel
theorem dX5_learn_126 : decode cX5_learn 126 = .ok (.iadd, 1) := by decide +kernel
theorem dX5_learn_127 : decode cX5_learn 127 = .ok (.iconst 0, 1) := by decide +kernel
theorem dX5_learn_128 : decode cX5_learn 128 = .ok (.iastore, 1) := by decide +kernel
theorem dX5_learn_129 : decode cX5_learn 129 = .ok (.return_, 1) := by decide +kernel
theorem dX5_slotOf_0 : decode cX5_slotOf 0 = .ok (.iconst (-1), 1) := by decide +kernel
theorem dX5_slotOf_1 : decode cX5_slotOf 1 = .ok (.ireturn, 1) := by decide +kernel
theorem dX6_init_0 : decode cX6_init 0 = .ok (.aload_n 0, 1) := by decide +kernel
theorem dX6_init_1 : decode cX6_init 1 = .ok (.invokespecial 3, 3) := by decide +kernel
theorem dX6_init_4 : decode cX6_init 4 = .ok (.aload_n 0, 1) := by decide +kernel
theorem dX6_init_5 : decode cX6_init 5 = .ok (.bipush 64, 2) := by decide +kernel
theorem dX6_init_7 : decode cX6_init 7 = .ok (.newarray .int, 2) := by decide +kernel
theorem dX6_init_9 : decode cX6_init 9 = .ok (.putfield 9, 3) := by decide +kernel
theorem dX6_init_12 : decode cX6_init 12 = .ok (.aload_n 0, 1) := by decide +kernel
theorem dX6_init_13 : decode cX6_init 13 = .ok (.bipush 64, 2) := by decide +kernel
theorem dX6_init_15 : decode cX6_init 15 = .ok (.newarray .int, 2) := by decide +kernel
theorem dX6_init_17 : decode cX6_init 17 = .ok (.putfield 15, 3) := by decide +kernel
theorem dX6_init_20 : decode cX6_init 20 = .ok (.aload_n 0, 1) := by decide +kernel
theorem dX6_init_21 : decode cX6_init 21 = .ok (.bipush 64, 2) := by decide +kernel
theorem dX6_init_23 : decode cX6_init 23 = .ok (.newarray .int, 2) := by decide +kernel
theorem dX6_init_25 : decode cX6_init 25 = .ok (.putfield 18, 3) := by decide +kernel
theorem dX6_init_28 : decode cX6_init 28 = .ok (.aload_n 0, 1) := by decide +kernel
theorem dX6_init_29 : decode cX6_init 29 = .ok (.bipush 64, 2) := by decide +kernel
theorem dX6_init_31 : decode cX6_init 31 = .ok (.newarray .int, 2) := by decide +kernel
theorem dX6_init_33 : decode cX6_init 33 = .ok (.putfield 21, 3) := by decide +kernel
theorem dX6_init_36 : decode cX6_init 36 = .ok (.aload_n 0, 1) := by decide +kernel
theorem dX6_init_37 : decode cX6_init 37 = .ok (.bipush 8, 2) := by decide +kernel
theorem dX6_init_39 : decode cX6_init 39 = .ok (.newarray .int, 2) := by decide +kernel
theorem dX6_init_41 : decode cX6_init 41 = .ok (.putfield 24, 3) := by decide +kernel
theorem dX6_init_44 : decode cX6_init 44 = .ok (.aload_n 0, 1) := by decide +kernel
theorem dX6_init_45 : decode cX6_init 45 = .ok (.bipush 32, 2) := by decide +kernel
theorem dX6_init_47 : decode cX6_init 47 = .ok (.newarray .int, 2) := by decide +kernel
theorem dX6_init_49 : decode cX6_init 49 = .ok (.putfield 27, 3) := by decide +kernel
theorem dX6_init_52 : decode cX6_init 52 = .ok (.return_, 1) := by decide +kernel
theorem dX6_write_0 : decode cX6_write 0 = .ok (.aload_n 0, 1) := by decide +kernel
theorem dX6_write_1 : decode cX6_write 1 = .ok (.getfield 9, 3) := by decide +kernel
theorem dX6_write_4 : decode cX6_write 4 = .ok (.iload_n 1, 1) := by decide +kernel
theorem dX6_write_5 : decode cX6_write 5 = .ok (.iload_n 2, 1) := by decide +kernel
theorem dX6_write_6 : decode cX6_write 6 = .ok (.iastore, 1) := by decide +kernel
theorem dX6_write_7 : decode cX6_write 7 = .ok (.aload_n 0, 1) := by decide +kernel
theorem dX6_write_8 : decode cX6_write 8 = .ok (.getfield 15, 3) := by decide +kernel
theorem dX6_write_11 : decode cX6_write 11 = .ok (.iload_n 1, 1) := by decide +kernel
theorem dX6_write_12 : decode cX6_write 12 = .ok (.iload_n 3, 1) := by decide +kernel
theorem dX6_write_13 : decode cX6_write 13 = .ok (.iastore, 1) := by decide +kernel
theorem dX6_write_14 : decode cX6_write 14 = .ok (.aload_n 0, 1) := by decide +kernel
theorem dX6_write_15 : decode cX6_write 15 = .ok (.getfield 18, 3) := by decide +kernel
theorem dX6_write_18 : decode cX6_write 18 = .ok (.iload_n 1, 1) := by decide +kernel
theorem dX6_write_19 : decode cX6_write 19 = .ok (.iload 4, 2) := by decide +kernel
theorem dX6_write_21 : decode cX6_write 21 = .ok (.iastore, 1) := by decide +kernel
theorem dX6_write_22 : decode cX6_write 22 = .ok (.aload_n 0, 1) := by decide +kernel
theorem dX6_write_23 : decode cX6_write 23 = .ok (.getfield 21, 3) := by decide +kernel
theorem dX6_write_26 : decode cX6_write 26 = .ok (.iload_n 1, 1) := by decide +kernel
theorem dX6_write_27 : decode cX6_write 27 = .ok (.iload 5, 2) := by decide +kernel
theorem dX6_write_29 : decode cX6_write 29 = .ok (.iastore, 1) := by decide +kernel
theorem dX6_write_30 : decode cX6_write 30 = .ok (.return_, 1) := by decide +kernel
theorem dX6_step_0 : decode cX6_step 0 = .ok (.aload_n 0, 1) := by decide +kernel
theorem dX6_step_1 : decode cX6_step 1 = .ok (.getfield 30, 3) := by decide +kernel
theorem dX6_step_4 : decode cX6_step 4 = .ok (.istore_n 1, 1) := by decide +kernel
theorem dX6_step_5 : decode cX6_step 5 = .ok (.aload_n 0, 1) := by decide +kernel
theorem dX6_step_6 : decode cX6_step 6 = .ok (.getfield 9, 3) := by decide +kernel
theorem dX6_step_9 : decode cX6_step 9 = .ok (.iload_n 1, 1) := by decide +kernel
theorem dX6_step_10 : decode cX6_step 10 = .ok (.iaload, 1) := by decide +kernel
theorem dX6_step_11 : decode cX6_step 11 = .ok (.istore_n 2, 1) := by decide +kernel
theorem dX6_step_12 : decode cX6_step 12 = .ok (.iload_n 2, 1) := by decide +kernel
theorem dX6_step_13 : decode cX6_step 13 = .ok (.ifCond .ne 5, 3) := by decide +kernel
theorem dX6_step_16 : decode cX6_step 16 = .ok (.iconst (-1), 1) := by decide +kernel
theorem dX6_step_17 : decode cX6_step 17 = .ok (.ireturn, 1) := by decide +kernel
theorem dX6_step_18 : decode cX6_step 18 = .ok (.aload_n 0, 1) := by decide +kernel
theorem dX6_step_19 : decode cX6_step 19 = .ok (.dup, 1) := by decide +kernel
theorem dX6_step_20 : decode cX6_step 20 = .ok (.getfield 34, 3) := by decide +kernel
theorem dX6_step_23 : decode cX6_step 23 = .ok (.iconst 1, 1) := by decide +kernel
theorem dX6_step_24 : decode cX6_step 24 = .ok (.iadd, 1) := by decide +kernel
theorem dX6_step_25 : decode cX6_step 25 = .ok (.putfield 34, 3) := by decide +kernel
theorem dX6_step_28 : decode cX6_step 28 = .ok (.aload_n 0, 1) := by decide +kernel
theorem dX6_step_29 : decode cX6_step 29 = .ok (.iload_n 1, 1) := by decide +kernel
theorem dX6_step_30 : decode cX6_step 30 = .ok (.iconst 1, 1) := by decide +kernel
theorem dX6_step_31 : decode cX6_step 31 = .ok (.iadd, 1) := by decide +kernel
theorem dX6_step_32 : decode cX6_step 32 = .ok (.bipush 63, 2) := by decide +kernel
theorem dX6_step_34 : decode cX6_step 34 = .ok (.iand, 1) := by decide +kernel
theorem dX6_step_35 : decode cX6_step 35 = .ok (.putfield 30, 3) := by decide +kernel
theorem dX6_step_38 : decode cX6_step 38 = .ok (.iload_n 2, 1) := by decide +kernel
theorem dX6_step_39 : decode cX6_step 39 = .ok (.bipush 9, 2) := by decide +kernel
theorem dX6_step_41 : decode cX6_step 41 = .ok (.if_icmp .ge 28, 3) := by decide +kernel
theorem dX6_step_44 : decode cX6_step 44 = .ok (.aload_n 0, 1) := by decide +kernel
theorem dX6_step_45 : decode cX6_step 45 = .ok (.iload_n 2, 1) := by decide +kernel
theorem dX6_step_46 : decode cX6_step 46 = .ok (.aload_n 0, 1) := by decide +kernel
theorem dX6_step_47 : decode cX6_step 47 = .ok (.getfield 15, 3) := by decide +kernel
theorem dX6_step_50 : decode cX6_step 50 = .ok (.iload_n 1, 1) := by decide +kernel
theorem dX6_step_51 : decode cX6_step 51 = .ok (.iaload, 1) := by decide +kernel
theorem dX6_step_52 : decode cX6_step 52 = .ok (.aload_n 0, 1) := by decide +kernel
theorem dX6_step_53 : decode cX6_step 53 = .ok (.getfield 18, 3) := by decide +kernel
theorem dX6_step_56 : decode cX6_step 56 = .ok (.iload_n 1, 1) := by decide +kernel
theorem dX6_step_57 : decode cX6_step 57 = .ok (.iaload, 1) := by decide +kernel
theorem dX6_step_58 : decode cX6_step 58 = .ok (.aload_n 0, 1) := by decide +kernel
theorem dX6_step_59 : decode cX6_step 59 = .ok (.getfield 21, 3) := by decide +kernel
theorem dX6_step_62 : decode cX6_step 62 = .ok (.iload_n 1, 1) := by decide +kernel
theorem dX6_step_63 : decode cX6_step 63 = .ok (.iaload, 1) := by decide +kernel
theorem dX6_step_64 : decode cX6_step 64 = .ok (.invokevirtual 37, 3) := by decide +kernel
theorem dX6_step_67 : decode cX6_step 67 = .ok (.iconst 2, 1) := by decide +kernel
theorem dX6_step_68 : decode cX6_step 68 = .ok (.ireturn, 1) := by decide +kernel
theorem dX6_step_69 : decode cX6_step 69 = .ok (.iload_n 2, 1) := by decide +kernel
theorem dX6_step_70 : decode cX6_step 70 = .ok (.bipush 12, 2) := by decide +kernel
theorem dX6_step_72 : decode cX6_step 72 = .ok (.if_icmp .eq 32, 3) := by decide +kernel
theorem dX6_step_75 : decode cX6_step 75 = .ok (.iload_n 2, 1) := by decide +kernel
theorem dX6_step_76 : decode cX6_step 76 = .ok (.aload_n 0, 1) := by decide +kernel
theorem dX6_step_77 : decode cX6_step 77 = .ok (.getfield 24, 3) := by decide +kernel
theorem dX6_step_80 : decode cX6_step 80 = .ok (.aload_n 0, 1) := by decide +kernel
theorem dX6_step_81 : decode cX6_step 81 = .ok (.getfield 15, 3) := by decide +kernel
theorem dX6_step_84 : decode cX6_step 84 = .ok (.iload_n 1, 1) := by decide +kernel
theorem dX6_step_85 : decode cX6_step 85 = .ok (.iaload, 1) := by decide +kernel
theorem dX6_step_86 : decode cX6_step 86 = .ok (.iaload, 1) := by decide +kernel
theorem dX6_step_87 : decode cX6_step 87 = .ok (.aload_n 0, 1) := by decide +kernel
theorem dX6_step_88 : decode cX6_step 88 = .ok (.getfield 24, 3) := by decide +kernel
theorem dX6_step_91 : decode cX6_step 91 = .ok (.aload_n 0, 1) := by decide +kernel
theorem dX6_step_92 : decode cX6_step 92 = .ok (.getfield 18, 3) := by decide +kernel
theorem dX6_step_95 : decode cX6_step 95 = .ok (.iload_n 1, 1) := by decide +kernel
theorem dX6_step_96 : decode cX6_step 96 = .ok (.iaload, 1) := by decide +kernel
theorem dX6_step_97 : decode cX6_step 97 = .ok (.iaload, 1) := by decide +kernel
theorem dX6_step_98 : decode cX6_step 98 = .ok (.invokestatic 41, 3) := by decide +kernel
theorem dX6_step_101 : decode cX6_step 101 = .ok (.ifCond .eq 7, 3) := by decide +kernel
theorem dX6_step_104 : decode cX6_step 104 = .ok (.iconst 1, 1) := by decide +kernel
theorem dX6_step_105 : decode cX6_step 105 = .ok (.goto 4, 3) := by decide +kernel
theorem dX6_step_108 : decode cX6_step 108 = .ok (.iconst 0, 1) := by decide +kernel
theorem dX6_step_109 : decode cX6_step 109 = .ok (.istore_n 3, 1) := by decide +kernel
theorem dX6_step_110 : decode cX6_step 110 = .ok (.iload_n 3, 1) := by decide +kernel
theorem dX6_step_111 : decode cX6_step 111 = .ok (.ifCond .eq 16, 3) := by decide +kernel
theorem dX6_step_114 : decode cX6_step 114 = .ok (.aload_n 0, 1) := by decide +kernel
theorem dX6_step_115 : decode cX6_step 115 = .ok (.aload_n 0, 1) := by decide +kernel
theorem dX6_step_116 : decode cX6_step 116 = .ok (.getfield 21, 3) := by decide +kernel
theorem dX6_step_119 : decode cX6_step 119 = .ok (.iload_n 1, 1) := by decide +kernel
theorem dX6_step_120 : decode cX6_step 120 = .ok (.iaload, 1) := by decide +kernel
theorem dX6_step_121 : decode cX6_step 121 = .ok (.bipush 63, 2) := by decide +kernel
theorem dX6_step_123 : decode cX6_step 123 = .ok (.iand, 1) := by decide +kernel
theorem dX6_step_124 : decode cX6_step 124 = .ok (.putfield 30, 3) := by decide +kernel
theorem dX6_step_127 : decode cX6_step 127 = .ok (.iload_n 2, 1) := by decide +kernel
theorem dX6_step_128 : decode cX6_step 128 = .ok (.bipush 12, 2) := by decide +kernel
theorem dX6_step_130 : decode cX6_step 130 = .ok (.if_icmp .ne 5, 3) := by decide +kernel
theorem dX6_step_133 : decode cX6_step 133 = .ok (.iconst 2, 1) := by decide +kernel
theorem dX6_step_134 : decode cX6_step 134 = .ok (.ireturn, 1) := by decide +kernel
theorem dX6_step_135 : decode cX6_step 135 = .ok (.iload_n 3, 1) := by decide +kernel
theorem dX6_step_136 : decode cX6_step 136 = .ok (.ifCond .eq 7, 3) := by decide +kernel
theorem dX6_step_139 : decode cX6_step 139 = .ok (.iconst 1, 1) := by decide +kernel
theorem dX6_step_140 : decode cX6_step 140 = .ok (.goto 4, 3) := by decide +kernel
theorem dX6_step_143 : decode cX6_step 143 = .ok (.iconst 0, 1) := by decide +kernel
theorem dX6_step_144 : decode cX6_step 144 = .ok (.ireturn, 1) := by decide +kernel
theorem dX6_holds_0 : decode cX6_holds 0 = .ok (.iload_n 0, 1) := by decide +kernel
theorem dX6_holds_1 : decode cX6_holds 1 = .ok (.bipush 9, 2) := by decide +kernel
theorem dX6_holds_3 : decode cX6_holds 3 = .ok (.if_icmp .ne 14, 3) := by decide +kernel
theorem dX6_holds_6 : decode cX6_holds 6 = .ok (.iload_n 1, 1) := by decide +kernel
theorem dX6_holds_7 : decode cX6_holds 7 = .ok (.iload_n 2, 1) := by decide +kernel
theorem dX6_holds_8 : decode cX6_holds 8 = .ok (.if_icmp .ge 7, 3) := by decide +kernel
theorem dX6_holds_11 : decode cX6_holds 11 = .ok (.iconst 1, 1) := by decide +kernel
theorem dX6_holds_12 : decode cX6_holds 12 = .ok (.goto 4, 3) := by decide +kernel
theorem dX6_holds_15 : decode cX6_holds 15 = .ok (.iconst 0, 1) := by decide +kernel
theorem dX6_holds_16 : decode cX6_holds 16 = .ok (.ireturn, 1) := by decide +kernel
theorem dX6_holds_17 : decode cX6_holds 17 = .ok (.iload_n 0, 1) := by decide +kernel
theorem dX6_holds_18 : decode cX6_holds 18 = .ok (.bipush 10, 2) := by decide +kernel
theorem dX6_holds_20 : decode cX6_holds 20 = .ok (.if_icmp .ne 14, 3) := by decide +kernel
theorem dX6_holds_23 : decode cX6_holds 23 = .ok (.iload_n 1, 1) := by decide +kernel
theorem dX6_holds_24 : decode cX6_holds 24 = .ok (.iload_n 2, 1) := by decide +kernel
theorem dX6_holds_25 : decode cX6_holds 25 = .ok (.if_icmp .ne 7, 3) := by decide +kernel
theorem dX6_holds_28 : decode cX6_holds 28 = .ok (.iconst 1, 1) := by decide +kernel
theorem dX6_holds_29 : decode cX6_holds 29 = .ok (.goto 4, 3) := by decide +kernel
theorem dX6_holds_32 : decode cX6_holds 32 = .ok (.iconst 0, 1) := by decide +kernel
theorem dX6_holds_33 : decode cX6_holds 33 = .ok (.ireturn, 1) := by decide +kernel
theorem dX6_holds_34 : decode cX6_holds 34 = .ok (.iload_n 1, 1) := by decide +kernel
theorem dX6_holds_35 : decode cX6_holds 35 = .ok (.ifCond .eq 7, 3) := by decide +kernel
theorem dX6_holds_38 : decode cX6_holds 38 = .ok (.iconst 1, 1) := by decide +kernel
theorem dX6_holds_39 : decode cX6_holds 39 = .ok (.goto 4, 3) := by decide +kernel
theorem dX6_holds_42 : decode cX6_holds 42 = .ok (.iconst 0, 1) := by decide +kernel
theorem dX6_holds_43 : decode cX6_holds 43 = .ok (.ireturn, 1) := by decide +kernel
theorem dX6_reckon_0 : decode cX6_reckon 0 = .ok (.aload_n 0, 1) := by decide +kernel
theorem dX6_reckon_1 : decode cX6_reckon 1 = .ok (.getfield 24, 3) := by decide +kernel
theorem dX6_reckon_4 : decode cX6_reckon 4 = .ok (.iload_n 3, 1) := by decide +kernel
theorem dX6_reckon_5 : decode cX6_reckon 5 = .ok (.iaload, 1) := by decide +kernel
theorem dX6_reckon_6 : decode cX6_reckon 6 = .ok (.bipush 31, 2) := by decide +kernel
theorem dX6_reckon_8 : decode cX6_reckon 8 = .ok (.iand, 1) := by decide +kernel
theorem dX6_reckon_9 : decode cX6_reckon 9 = .ok (.istore 5, 2) := by decide +kernel
theorem dX6_reckon_11 : decode cX6_reckon 11 = .ok (.iload_n 1, 1) := by decide +kernel
theorem dX6_reckon_12 : decode cX6_reckon 12 = .ok (.tableswitch 176 1 8 #[48, 59, 77, 95, 113, 131, 144, 160], 48) := by decide +kernel
theorem dX6_reckon_60 : decode cX6_reckon 60 = .ok (.aload_n 0, 1) := by decide +kernel
theorem dX6_reckon_61 : decode cX6_reckon 61 = .ok (.getfield 24, 3) := by decide +kernel
theorem dX6_reckon_64 : decode cX6_reckon 64 = .ok (.iload_n 2, 1) := by decide +kernel
theorem dX6_reckon_65 : decode cX6_reckon 65 = .ok (.iload 4, 2) := by decide +kernel
theorem dX6_reckon_67 : decode cX6_reckon 67 = .ok (.iastore, 1) := by decide +kernel
theorem dX6_reckon_68 : decode cX6_reckon 68 = .ok (.goto 120, 3) := by decide +kernel
theorem dX6_reckon_71 : decode cX6_reckon 71 = .ok (.aload_n 0, 1) := by decide +kernel
theorem dX6_reckon_72 : decode cX6_reckon 72 = .ok (.getfield 24, 3) := by decide +kernel
theorem dX6_reckon_75 : decode cX6_reckon 75 = .ok (.iload_n 2, 1) := by decide +kernel
theorem dX6_reckon_76 : decode cX6_reckon 76 = .ok (.dup2, 1) := by decide +kernel
theorem dX6_reckon_77 : decode cX6_reckon 77 = .ok (.iaload, 1) := by decide +kernel
theorem dX6_reckon_78 : decode cX6_reckon 78 = .ok (.aload_n 0, 1) := by decide +kernel
theorem dX6_reckon_79 : decode cX6_reckon 79 = .ok (.getfield 24, 3) := by decide +kernel
theorem dX6_reckon_82 : decode cX6_reckon 82 = .ok (.iload_n 3, 1) := by decide +kernel
theorem dX6_reckon_83 : decode cX6_reckon 83 = .ok (.iaload, 1) := by decide +kernel
theorem dX6_reckon_84 : decode cX6_reckon 84 = .ok (.iadd, 1) := by decide +kernel
theorem dX6_reckon_85 : decode cX6_reckon 85 = .ok (.iastore, 1) := by decide +kernel
theorem dX6_reckon_86 : decode cX6_reckon 86 = .ok (.goto 102, 3) := by decide +kernel
theorem dX6_reckon_89 : decode cX6_reckon 89 = .ok (.aload_n 0, 1) := by decide +kernel
theorem dX6_reckon_90 : decode cX6_reckon 90 = .ok (.getfield 24, 3) := by decide +kernel
theorem dX6_reckon_93 : decode cX6_reckon 93 = .ok (.iload_n 2, 1) := by decide +kernel
theorem dX6_reckon_94 : decode cX6_reckon 94 = .ok (.dup2, 1) := by decide +kernel
theorem dX6_reckon_95 : decode cX6_reckon 95 = .ok (.iaload, 1) := by decide +kernel
theorem dX6_reckon_96 : decode cX6_reckon 96 = .ok (.aload_n 0, 1) := by decide +kernel
theorem dX6_reckon_97 : decode cX6_reckon 97 = .ok (.getfield 24, 3) := by decide +kernel
theorem dX6_reckon_100 : decode cX6_reckon 100 = .ok (.iload_n 3, 1) := by decide +kernel
theorem dX6_reckon_101 : decode cX6_reckon 101 = .ok (.iaload, 1) := by decide +kernel
theorem dX6_reckon_102 : decode cX6_reckon 102 = .ok (.isub, 1) := by decide +kernel
theorem dX6_reckon_103 : decode cX6_reckon 103 = .ok (.iastore, 1) := by decide +kernel
theorem dX6_reckon_104 : decode cX6_reckon 104 = .ok (.goto 84, 3) := by decide +kernel
theorem dX6_reckon_107 : decode cX6_reckon 107 = .ok (.aload_n 0, 1) := by decide +kernel
theorem dX6_reckon_108 : decode cX6_reckon 108 = .ok (.getfield 24, 3) := by decide +kernel
theorem dX6_reckon_111 : decode cX6_reckon 111 = .ok (.iload_n 2, 1) := by decide +kernel
theorem dX6_reckon_112 : decode cX6_reckon 112 = .ok (.dup2, 1) := by decide +kernel
theorem dX6_reckon_113 : decode cX6_reckon 113 = .ok (.iaload, 1) := by decide +kernel
theorem dX6_reckon_114 : decode cX6_reckon 114 = .ok (.aload_n 0, 1) := by decide +kernel
theorem dX6_reckon_115 : decode cX6_reckon 115 = .ok (.getfield 24, 3) := by decide +kernel
theorem dX6_reckon_118 : decode cX6_reckon 118 = .ok (.iload_n 3, 1) := by decide +kernel
theorem dX6_reckon_119 : decode cX6_reckon 119 = .ok (.iaload, 1) := by decide +kernel
theorem dX6_reckon_120 : decode cX6_reckon 120 = .ok (.imul, 1) := by decide +kernel
theorem dX6_reckon_121 : decode cX6_reckon 121 = .ok (.iastore, 1) := by decide +kernel
theorem dX6_reckon_122 : decode cX6_reckon 122 = .ok (.goto 66, 3) := by decide +kernel
theorem dX6_reckon_125 : decode cX6_reckon 125 = .ok (.aload_n 0, 1) := by decide +kernel
theorem dX6_reckon_126 : decode cX6_reckon 126 = .ok (.getfield 24, 3) := by decide +kernel
theorem dX6_reckon_129 : decode cX6_reckon 129 = .ok (.iload_n 2, 1) := by decide +kernel
theorem dX6_reckon_130 : decode cX6_reckon 130 = .ok (.dup2, 1) := by decide +kernel
theorem dX6_reckon_131 : decode cX6_reckon 131 = .ok (.iaload, 1) := by decide +kernel
theorem dX6_reckon_132 : decode cX6_reckon 132 = .ok (.aload_n 0, 1) := by decide +kernel
theorem dX6_reckon_133 : decode cX6_reckon 133 = .ok (.getfield 24, 3) := by decide +kernel
theorem dX6_reckon_136 : decode cX6_reckon 136 = .ok (.iload_n 3, 1) := by decide +kernel
theorem dX6_reckon_137 : decode cX6_reckon 137 = .ok (.iaload, 1) := by decide +kernel
theorem dX6_reckon_138 : decode cX6_reckon 138 = .ok (.iand, 1) := by decide +kernel
theorem dX6_reckon_139 : decode cX6_reckon 139 = .ok (.iastore, 1) := by decide +kernel
theorem dX6_reckon_140 : decode cX6_reckon 140 = .ok (.goto 48, 3) := by decide +kernel
theorem dX6_reckon_143 : decode cX6_reckon 143 = .ok (.aload_n 0, 1) := by decide +kernel
theorem dX6_reckon_144 : decode cX6_reckon 144 = .ok (.getfield 24, 3) := by decide +kernel
theorem dX6_reckon_147 : decode cX6_reckon 147 = .ok (.iload_n 2, 1) := by decide +kernel
theorem dX6_reckon_148 : decode cX6_reckon 148 = .ok (.dup2, 1) := by decide +kernel
theorem dX6_reckon_149 : decode cX6_reckon 149 = .ok (.iaload, 1) := by decide +kernel
theorem dX6_reckon_150 : decode cX6_reckon 150 = .ok (.iconst 1, 1) := by decide +kernel
theorem dX6_reckon_151 : decode cX6_reckon 151 = .ok (.iushr, 1) := by decide +kernel
theorem dX6_reckon_152 : decode cX6_reckon 152 = .ok (.iastore, 1) := by decide +kernel
theorem dX6_reckon_153 : decode cX6_reckon 153 = .ok (.goto 35, 3) := by decide +kernel
theorem dX6_reckon_156 : decode cX6_reckon 156 = .ok (.aload_n 0, 1) := by decide +kernel
theorem dX6_reckon_157 : decode cX6_reckon 157 = .ok (.getfield 24, 3) := by decide +kernel
theorem dX6_reckon_160 : decode cX6_reckon 160 = .ok (.iload_n 2, 1) := by decide +kernel
theorem dX6_reckon_161 : decode cX6_reckon 161 = .ok (.aload_n 0, 1) := by decide +kernel
theorem dX6_reckon_162 : decode cX6_reckon 162 = .ok (.getfield 27, 3) := by decide +kernel
theorem dX6_reckon_165 : decode cX6_reckon 165 = .ok (.iload 5, 2) := by decide +kernel
theorem dX6_reckon_167 : decode cX6_reckon 167 = .ok (.iaload, 1) := by decide +kernel
theorem dX6_reckon_168 : decode cX6_reckon 168 = .ok (.iastore, 1) := by decide +kernel
theorem dX6_reckon_169 : decode cX6_reckon 169 = .ok (.goto 19, 3) := by decide +kernel
theorem dX6_reckon_172 : decode cX6_reckon 172 = .ok (.aload_n 0, 1) := by decide +kernel
theorem dX6_reckon_173 : decode cX6_reckon 173 = .ok (.getfield 27, 3) := by decide +kernel
theorem dX6_reckon_176 : decode cX6_reckon 176 = .ok (.iload 5, 2) := by decide +kernel
theorem dX6_reckon_178 : decode cX6_reckon 178 = .ok (.aload_n 0, 1) := by decide +kernel
theorem dX6_reckon_179 : decode cX6_reckon 179 = .ok (.getfield 24, 3) := by decide +kernel
theorem dX6_reckon_182 : decode cX6_reckon 182 = .ok (.iload_n 2, 1) := by decide +kernel
theorem dX6_reckon_183 : decode cX6_reckon 183 = .ok (.iaload, 1) := by decide +kernel
theorem dX6_reckon_184 : decode cX6_reckon 184 = .ok (.iastore, 1) := by decide +kernel
theorem dX6_reckon_185 : decode cX6_reckon 185 = .ok (.goto 3, 3) := by decide +kernel
theorem dX6_reckon_188 : decode cX6_reckon 188 = .ok (.return_, 1) := by decide +kernel
theorem dX7_init_0 : decode cX7_init 0 = .ok (.aload_n 0, 1) := by decide +kernel
theorem dX7_init_1 : decode cX7_init 1 = .ok (.invokespecial 5, 3) := by decide +kernel
theorem dX7_init_4 : decode cX7_init 4 = .ok (.aload_n 0, 1) := by decide +kernel
theorem dX7_init_5 : decode cX7_init 5 = .ok (.sipush 3000, 3) := by decide +kernel
theorem dX7_init_8 : decode cX7_init 8 = .ok (.newarray .int, 2) := by decide +kernel
theorem dX7_init_10 : decode cX7_init 10 = .ok (.putfield 11, 3) := by decide +kernel
theorem dX7_init_13 : decode cX7_init 13 = .ok (.aload_n 0, 1) := by decide +kernel
theorem dX7_init_14 : decode cX7_init 14 = .ok (.sipush 128, 3) := by decide +kernel
theorem dX7_init_17 : decode cX7_init 17 = .ok (.newarray .int, 2) := by decide +kernel
theorem dX7_init_19 : decode cX7_init 19 = .ok (.putfield 15, 3) := by decide +kernel
theorem dX7_init_22 : decode cX7_init 22 = .ok (.aload_n 0, 1) := by decide +kernel
theorem dX7_init_23 : decode cX7_init 23 = .ok (.sipush 16384, 3) := by decide +kernel
theorem dX7_init_26 : decode cX7_init 26 = .ok (.newarray .int, 2) := by decide +kernel
theorem dX7_init_28 : decode cX7_init 28 = .ok (.putfield 18, 3) := by decide +kernel
theorem dX7_init_31 : decode cX7_init 31 = .ok (.aload_n 0, 1) := by decide +kernel
theorem dX7_init_32 : decode cX7_init 32 = .ok (.sipush 3000, 3) := by decide +kernel
theorem dX7_init_35 : decode cX7_init 35 = .ok (.newarray .int, 2) := by decide +kernel
theorem dX7_init_37 : decode cX7_init 37 = .ok (.putfield 21, 3) := by decide +kernel
theorem dX7_init_40 : decode cX7_init 40 = .ok (.aload_n 0, 1) := by decide +kernel
theorem dX7_init_41 : decode cX7_init 41 = .ok (.bipush 64, 2) := by decide +kernel
theorem dX7_init_43 : decode cX7_init 43 = .ok (.newarray .int, 2) := by decide +kernel
theorem dX7_init_45 : decode cX7_init 45 = .ok (.putfield 24, 3) := by decide +kernel
theorem dX7_init_48 : decode cX7_init 48 = .ok (.return_, 1) := by decide +kernel
theorem dX7_add_0 : decode cX7_add 0 = .ok (.aload_n 0, 1) := by decide +kernel
theorem dX7_add_1 : decode cX7_add 1 = .ok (.getfield 27, 3) := by decide +kernel
theorem dX7_add_4 : decode cX7_add 4 = .ok (.sipush 3000, 3) := by decide +kernel
theorem dX7_add_7 : decode cX7_add 7 = .ok (.if_icmp .lt 4, 3) := by decide +kernel
theorem dX7_add_10 : decode cX7_add 10 = .ok (.return_, 1) := by decide +kernel
theorem dX7_add_11 : decode cX7_add 11 = .ok (.aload_n 0, 1) := by decide +kernel
theorem dX7_add_12 : decode cX7_add 12 = .ok (.getfield 11, 3) := by decide +kernel
theorem dX7_add_15 : decode cX7_add 15 = .ok (.aload_n 0, 1) := by decide +kernel
theorem dX7_add_16 : decode cX7_add 16 = .ok (.getfield 27, 3) := by decide +kernel
theorem dX7_add_19 : decode cX7_add 19 = .ok (.iconst 2, 1) := by decide +kernel
theorem dX7_add_20 : decode cX7_add 20 = .ok (.iload_n 1, 1) := by decide +kernel
theorem dX7_add_21 : decode cX7_add 21 = .ok (.imul, 1) := by decide +kernel
theorem dX7_add_22 : decode cX7_add 22 = .ok (.iload_n 2, 1) := by decide +kernel
theorem dX7_add_23 : decode cX7_add 23 = .ok (.iadd, 1) := by decide +kernel
theorem dX7_add_24 : decode cX7_add 24 = .ok (.iastore, 1) := by decide +kernel
theorem dX7_add_25 : decode cX7_add 25 = .ok (.aload_n 0, 1) := by decide +kernel
theorem dX7_add_26 : decode cX7_add 26 = .ok (.getfield 15, 3) := by decide +kernel
theorem dX7_add_29 : decode cX7_add 29 = .ok (.iconst 2, 1) := by decide +kernel
theorem dX7_add_30 : decode cX7_add 30 = .ok (.iload_n 1, 1) := by decide +kernel
theorem dX7_add_31 : decode cX7_add 31 = .ok (.imul, 1) := by decide +kernel
theorem dX7_add_32 : decode cX7_add 32 = .ok (.iload_n 2, 1) := by decide +kernel
theorem dX7_add_33 : decode cX7_add 33 = .ok (.iadd, 1) := by decide +kernel
theorem dX7_add_34 : decode cX7_add 34 = .ok (.dup2, 1) := by decide +kernel
theorem dX7_add_35 : decode cX7_add 35 = .ok (.iaload, 1) := by decide +kernel
theorem dX7_add_36 : decode cX7_add 36 = .ok (.iconst 1, 1) := by decide +kernel
theorem dX7_add_37 : decode cX7_add 37 = .ok (.iadd, 1) := by decide +kernel
theorem dX7_add_38 : decode cX7_add 38 = .ok (.iastore, 1) := by decide +kernel
theorem dX7_add_39 : decode cX7_add 39 = .ok (.aload_n 0, 1) := by decide +kernel
theorem dX7_add_40 : decode cX7_add 40 = .ok (.dup, 1) := by decide +kernel
theorem dX7_add_41 : decode cX7_add 41 = .ok (.getfield 27, 3) := by decide +kernel
theorem dX7_add_44 : decode cX7_add 44 = .ok (.iconst 1, 1) := by decide +kernel
theorem dX7_add_45 : decode cX7_add 45 = .ok (.iadd, 1) := by decide +kernel
theorem dX7_add_46 : decode cX7_add 46 = .ok (.putfield 27, 3) := by decide +kernel
theorem dX7_add_49 : decode cX7_add 49 = .ok (.return_, 1) := by decide +kernel
theorem dX7_clear_0 : decode cX7_clear 0 = .ok (.aload_n 0, 1) := by decide +kernel
theorem dX7_clear_1 : decode cX7_clear 1 = .ok (.iconst 0, 1) := by decide +kernel
theorem dX7_clear_2 : decode cX7_clear 2 = .ok (.putfield 27, 3) := by decide +kernel
theorem dX7_clear_5 : decode cX7_clear 5 = .ok (.aload_n 0, 1) := by decide +kernel
theorem dX7_clear_6 : decode cX7_clear 6 = .ok (.getfield 15, 3) := by decide +kernel
theorem dX7_clear_9 : decode cX7_clear 9 = .ok (.iconst 0, 1) := by decide +kernel
theorem dX7_clear_10 : decode cX7_clear 10 = .ok (.invokestatic 31, 3) := by decide +kernel
theorem dX7_clear_13 : decode cX7_clear 13 = .ok (.return_, 1) := by decide +kernel
theorem dX7_placeOf_0 : decode cX7_placeOf 0 = .ok (.aload_n 0, 1) := by decide +kernel
theorem dX7_placeOf_1 : decode cX7_placeOf 1 = .ok (.getfield 11, 3) := by decide +kernel
theorem dX7_placeOf_4 : decode cX7_placeOf 4 = .ok (.iload_n 1, 1) := by decide +kernel
theorem dX7_placeOf_5 : decode cX7_placeOf 5 = .ok (.iaload, 1) := by decide +kernel
theorem dX7_placeOf_6 : decode cX7_placeOf 6 = .ok (.iconst 1, 1) := by decide +kernel
theorem dX7_placeOf_7 : decode cX7_placeOf 7 = .ok (.ishr, 1) := by decide +kernel
theorem dX7_placeOf_8 : decode cX7_placeOf 8 = .ok (.ireturn, 1) := by decide +kernel
theorem dX7_wayOf_0 : decode cX7_wayOf 0 = .ok (.aload_n 0, 1) := by decide +kernel
theorem dX7_wayOf_1 : decode cX7_wayOf 1 = .ok (.getfield 11, 3) := by decide +kernel
theorem dX7_wayOf_4 : decode cX7_wayOf 4 = .ok (.iload_n 1, 1) := by decide +kernel
theorem dX7_wayOf_5 : decode cX7_wayOf 5 = .ok (.iaload, 1) := by decide +kernel
theorem dX7_wayOf_6 : decode cX7_wayOf 6 = .ok (.iconst 1, 1) := by decide +kernel
theorem dX7_wayOf_7 : decode cX7_wayOf 7 = .ok (.iand, 1) := by decide +kernel
theorem dX7_wayOf_8 : decode cX7_wayOf 8 = .ok (.ireturn, 1) := by decide +kernel
theorem dX7_count_0 : decode cX7_count 0 = .ok (.aload_n 0, 1) := by decide +kernel
theorem dX7_count_1 : decode cX7_count 1 = .ok (.getfield 15, 3) := by decide +kernel
theorem dX7_count_4 : decode cX7_count 4 = .ok (.iconst 2, 1) := by decide +kernel
theorem dX7_count_5 : decode cX7_count 5 = .ok (.iload_n 1, 1) := by decide +kernel
theorem dX7_count_6 : decode cX7_count 6 = .ok (.imul, 1) := by decide +kernel
theorem dX7_count_7 : decode cX7_count 7 = .ok (.iload_n 2, 1) := by decide +kernel
theorem dX7_count_8 : decode cX7_count 8 = .ok (.iadd, 1) := by decide +kernel
theorem dX7_count_9 : decode cX7_count 9 = .ok (.iaload, 1) := by decide +kernel
theorem dX7_count_10 : decode cX7_count 10 = .ok (.ireturn, 1) := by decide +kernel
theorem dX7_usualWay_0 : decode cX7_usualWay 0 = .ok (.aload_n 0, 1) := by decide +kernel
theorem dX7_usualWay_1 : decode cX7_usualWay 1 = .ok (.iload_n 1, 1) := by decide +kernel
theorem dX7_usualWay_2 : decode cX7_usualWay 2 = .ok (.iconst 0, 1) := by decide +kernel
theorem dX7_usualWay_3 : decode cX7_usualWay 3 = .ok (.invokevirtual 37, 3) := by decide +kernel
theorem dX7_usualWay_6 : decode cX7_usualWay 6 = .ok (.istore_n 2, 1) := by decide +kernel
theorem dX7_usualWay_7 : decode cX7_usualWay 7 = .ok (.aload_n 0, 1) := by decide +kernel
theorem dX7_usualWay_8 : decode cX7_usualWay 8 = .ok (.iload_n 1, 1) := by decide +kernel
theorem dX7_usualWay_9 : decode cX7_usualWay 9 = .ok (.iconst 1, 1) := by decide +kernel
theorem dX7_usualWay_10 : decode cX7_usualWay 10 = .ok (.invokevirtual 37, 3) := by decide +kernel
theorem dX7_usualWay_13 : decode cX7_usualWay 13 = .ok (.istore_n 3, 1) := by decide +kernel
theorem dX7_usualWay_14 : decode cX7_usualWay 14 = .ok (.iload_n 2, 1) := by decide +kernel
theorem dX7_usualWay_15 : decode cX7_usualWay 15 = .ok (.iload_n 3, 1) := by decide +kernel
theorem dX7_usualWay_16 : decode cX7_usualWay 16 = .ok (.iadd, 1) := by decide +kernel
theorem dX7_usualWay_17 : decode cX7_usualWay 17 = .ok (.ifCond .ne 5, 3) := by decide +kernel
theorem dX7_usualWay_20 : decode cX7_usualWay 20 = .ok (.iconst (-1), 1) := by decide +kernel
theorem dX7_usualWay_21 : decode cX7_usualWay 21 = .ok (.ireturn, 1) := by decide +kernel
theorem dX7_usualWay_22 : decode cX7_usualWay 22 = .ok (.iload_n 3, 1) := by decide +kernel
theorem dX7_usualWay_23 : decode cX7_usualWay 23 = .ok (.iload_n 2, 1) := by decide +kernel
theorem dX7_usualWay_24 : decode cX7_usualWay 24 = .ok (.if_icmp .lt 7, 3) := by decide +kernel
theorem dX7_usualWay_27 : decode cX7_usualWay 27 = .ok (.iconst 1, 1) := by decide +kernel
theorem dX7_usualWay_28 : decode cX7_usualWay 28 = .ok (.goto 4, 3) := by decide +kernel
theorem dX7_usualWay_31 : decode cX7_usualWay 31 = .ok (.iconst 0, 1) := by decide +kernel
theorem dX7_usualWay_32 : decode cX7_usualWay 32 = .ok (.ireturn, 1) := by decide +kernel
theorem dX7_survey_0 : decode cX7_survey 0 = .ok (.aload_n 0, 1) := by decide +kernel
theorem dX7_survey_1 : decode cX7_survey 1 = .ok (.getfield 24, 3) := by decide +kernel
theorem dX7_survey_4 : decode cX7_survey 4 = .ok (.iconst 0, 1) := by decide +kernel
theorem dX7_survey_5 : decode cX7_survey 5 = .ok (.invokestatic 31, 3) := by decide +kernel
theorem dX7_survey_8 : decode cX7_survey 8 = .ok (.aload_n 0, 1) := by decide +kernel
theorem dX7_survey_9 : decode cX7_survey 9 = .ok (.iconst 0, 1) := by decide +kernel
theorem dX7_survey_10 : decode cX7_survey 10 = .ok (.putfield 41, 3) := by decide +kernel
theorem dX7_survey_13 : decode cX7_survey 13 = .ok (.aload_n 0, 1) := by decide +kernel
theorem dX7_survey_14 : decode cX7_survey 14 = .ok (.iconst 0, 1) := by decide +kernel
theorem dX7_survey_15 : decode cX7_survey 15 = .ok (.putfield 44, 3) := by decide +kernel
theorem dX7_survey_18 : decode cX7_survey 18 = .ok (.iconst 0, 1) := by decide +kernel
theorem dX7_survey_19 : decode cX7_survey 19 = .ok (.istore_n 3, 1) := by decide +kernel
theorem dX7_survey_20 : decode cX7_survey 20 = .ok (.iload_n 3, 1) := by decide +kernel
theorem dX7_survey_21 : decode cX7_survey 21 = .ok (.aload_n 0, 1) := by decide +kernel
theorem dX7_survey_22 : decode cX7_survey 22 = .ok (.getfield 27, 3) := by decide +kernel
theorem dX7_survey_25 : decode cX7_survey 25 = .ok (.if_icmp .ge 89, 3) := by decide +kernel
theorem dX7_survey_28 : decode cX7_survey 28 = .ok (.aload_n 0, 1) := by decide +kernel
theorem dX7_survey_29 : decode cX7_survey 29 = .ok (.iload_n 3, 1) := by decide +kernel
theorem dX7_survey_30 : decode cX7_survey 30 = .ok (.invokevirtual 47, 3) := by decide +kernel
theorem dX7_survey_33 : decode cX7_survey 33 = .ok (.istore 4, 2) := by decide +kernel
theorem dX7_survey_35 : decode cX7_survey 35 = .ok (.aload_n 0, 1) := by decide +kernel
theorem dX7_survey_36 : decode cX7_survey 36 = .ok (.iload_n 3, 1) := by decide +kernel
theorem dX7_survey_37 : decode cX7_survey 37 = .ok (.invokevirtual 51, 3) := by decide +kernel
theorem dX7_survey_40 : decode cX7_survey 40 = .ok (.istore 5, 2) := by decide +kernel
theorem dX7_survey_42 : decode cX7_survey 42 = .ok (.iload_n 2, 1) := by decide +kernel
theorem dX7_survey_43 : decode cX7_survey 43 = .ok (.ifCond .eq 8, 3) := by decide +kernel
theorem dX7_survey_46 : decode cX7_survey 46 = .ok (.iload 4, 2) := by decide +kernel
theorem dX7_survey_48 : decode cX7_survey 48 = .ok (.goto 4, 3) := by decide +kernel
theorem dX7_survey_51 : decode cX7_survey 51 = .ok (.iconst 0, 1) := by decide +kernel
theorem dX7_survey_52 : decode cX7_survey 52 = .ok (.istore 6, 2) := by decide +kernel
theorem dX7_survey_54 : decode cX7_survey 54 = .ok (.aload_n 0, 1) := by decide +kernel
theorem dX7_survey_55 : decode cX7_survey 55 = .ok (.getfield 21, 3) := by decide +kernel
theorem dX7_survey_58 : decode cX7_survey 58 = .ok (.iload_n 3, 1) := by decide +kernel
theorem dX7_survey_59 : decode cX7_survey 59 = .ok (.iload 4, 2) := by decide +kernel
theorem dX7_survey_61 : decode cX7_survey 61 = .ok (.iload_n 1, 1) := by decide +kernel
theorem dX7_survey_62 : decode cX7_survey 62 = .ok (.ishl, 1) := by decide +kernel
theorem dX7_survey_63 : decode cX7_survey 63 = .ok (.aload_n 0, 1) := by decide +kernel
theorem dX7_survey_64 : decode cX7_survey 64 = .ok (.getfield 24, 3) := by decide +kernel
theorem dX7_survey_67 : decode cX7_survey 67 = .ok (.iload 6, 2) := by decide +kernel
theorem dX7_survey_69 : decode cX7_survey 69 = .ok (.iaload, 1) := by decide +kernel
theorem dX7_survey_70 : decode cX7_survey 70 = .ok (.ior, 1) := by decide +kernel
theorem dX7_survey_71 : decode cX7_survey 71 = .ok (.iastore, 1) := by decide +kernel
theorem dX7_survey_72 : decode cX7_survey 72 = .ok (.aload_n 0, 1) := by decide +kernel
theorem dX7_survey_73 : decode cX7_survey 73 = .ok (.aload_n 0, 1) := by decide +kernel
theorem dX7_survey_74 : decode cX7_survey 74 = .ok (.getfield 21, 3) := by decide +kernel
theorem dX7_survey_77 : decode cX7_survey 77 = .ok (.iload_n 3, 1) := by decide +kernel
theorem dX7_survey_78 : decode cX7_survey 78 = .ok (.iaload, 1) := by decide +kernel
theorem dX7_survey_79 : decode cX7_survey 79 = .ok (.iload 5, 2) := by decide +kernel
theorem dX7_survey_81 : decode cX7_survey 81 = .ok (.invokevirtual 54, 3) := by decide +kernel
theorem dX7_survey_84 : decode cX7_survey 84 = .ok (.aload_n 0, 1) := by decide +kernel
theorem dX7_survey_85 : decode cX7_survey 85 = .ok (.getfield 24, 3) := by decide +kernel
theorem dX7_survey_88 : decode cX7_survey 88 = .ok (.iload 6, 2) := by decide +kernel
theorem dX7_survey_90 : decode cX7_survey 90 = .ok (.aload_n 0, 1) := by decide +kernel
theorem dX7_survey_91 : decode cX7_survey 91 = .ok (.getfield 24, 3) := by decide +kernel
theorem dX7_survey_94 : decode cX7_survey 94 = .ok (.iload 6, 2) := by decide +kernel
theorem dX7_survey_96 : decode cX7_survey 96 = .ok (.iaload, 1) := by decide +kernel
theorem dX7_survey_97 : decode cX7_survey 97 = .ok (.iconst 1, 1) := by decide +kernel
theorem dX7_survey_98 : decode cX7_survey 98 = .ok (.ishl, 1) := by decide +kernel
theorem dX7_survey_99 : decode cX7_survey 99 = .ok (.iload 5, 2) := by decide +kernel
theorem dX7_survey_101 : decode cX7_survey 101 = .ok (.ior, 1) := by decide +kernel
theorem dX7_survey_102 : decode cX7_survey 102 = .ok (.iload_n 1, 1) := by decide +kernel
theorem dX7_survey_103 : decode cX7_survey 103 = .ok (.invokestatic 58, 3) := by decide +kernel
theorem dX7_survey_106 : decode cX7_survey 106 = .ok (.iand, 1) := by decide +kernel
theorem dX7_survey_107 : decode cX7_survey 107 = .ok (.iastore, 1) := by decide +kernel
theorem dX7_survey_108 : decode cX7_survey 108 = .ok (.iinc 3 1, 3) := by decide +kernel
theorem dX7_survey_111 : decode cX7_survey 111 = .ok (.goto (-91), 3) := by decide +kernel
theorem dX7_survey_114 : decode cX7_survey 114 = .ok (.iconst 0, 1) := by decide +kernel
theorem dX7_survey_115 : decode cX7_survey 115 = .ok (.istore_n 3, 1) := by decide +kernel
theorem dX7_survey_116 : decode cX7_survey 116 = .ok (.iload_n 3, 1) := by decide +kernel
theorem dX7_survey_117 : decode cX7_survey 117 = .ok (.aload_n 0, 1) := by decide +kernel
theorem dX7_survey_118 : decode cX7_survey 118 = .ok (.getfield 27, 3) := by decide +kernel
theorem dX7_survey_121 : decode cX7_survey 121 = .ok (.if_icmp .ge 21, 3) := by decide +kernel
theorem dX7_survey_124 : decode cX7_survey 124 = .ok (.aload_n 0, 1) := by decide +kernel
theorem dX7_survey_125 : decode cX7_survey 125 = .ok (.getfield 18, 3) := by decide +kernel
theorem dX7_survey_128 : decode cX7_survey 128 = .ok (.aload_n 0, 1) := by decide +kernel
theorem dX7_survey_129 : decode cX7_survey 129 = .ok (.getfield 21, 3) := by decide +kernel
theorem dX7_survey_132 : decode cX7_survey 132 = .ok (.iload_n 3, 1) := by decide +kernel
theorem dX7_survey_133 : decode cX7_survey 133 = .ok (.iaload, 1) := by decide +kernel
theorem dX7_survey_134 : decode cX7_survey 134 = .ok (.iconst 0, 1) := by decide +kernel
theorem dX7_survey_135 : decode cX7_survey 135 = .ok (.iastore, 1) := by decide +kernel
theorem dX7_survey_136 : decode cX7_survey 136 = .ok (.iinc 3 1, 3) := by decide +kernel
theorem dX7_survey_139 : decode cX7_survey 139 = .ok (.goto (-23), 3) := by decide +kernel
theorem dX7_survey_142 : decode cX7_survey 142 = .ok (.return_, 1) := by decide +kernel
theorem dX7_tally_0 : decode cX7_tally 0 = .ok (.aload_n 0, 1) := by decide +kernel
theorem dX7_tally_1 : decode cX7_tally 1 = .ok (.getfield 18, 3) := by decide +kernel
theorem dX7_tally_4 : decode cX7_tally 4 = .ok (.iload_n 1, 1) := by decide +kernel
theorem dX7_tally_5 : decode cX7_tally 5 = .ok (.iaload, 1) := by decide +kernel
theorem dX7_tally_6 : decode cX7_tally 6 = .ok (.ldc 61, 2) := by decide +kernel
theorem dX7_tally_8 : decode cX7_tally 8 = .ok (.iand, 1) := by decide +kernel
theorem dX7_tally_9 : decode cX7_tally 9 = .ok (.istore_n 3, 1) := by decide +kernel
theorem dX7_tally_10 : decode cX7_tally 10 = .ok (.aload_n 0, 1) := by decide +kernel
theorem dX7_tally_11 : decode cX7_tally 11 = .ok (.getfield 18, 3) := by decide +kernel
theorem dX7_tally_14 : decode cX7_tally 14 = .ok (.iload_n 1, 1) := by decide +kernel
theorem dX7_tally_15 : decode cX7_tally 15 = .ok (.iaload, 1) := by decide +kernel
theorem dX7_tally_16 : decode cX7_tally 16 = .ok (.bipush 16, 2) := by decide +kernel
theorem dX7_tally_18 : decode cX7_tally 18 = .ok (.ishr, 1) := by decide +kernel
theorem dX7_tally_19 : decode cX7_tally 19 = .ok (.istore 4, 2) := by decide +kernel
theorem dX7_tally_21 : decode cX7_tally 21 = .ok (.iload_n 3, 1) := by decide +kernel
theorem dX7_tally_22 : decode cX7_tally 22 = .ok (.iload 4, 2) := by decide +kernel
theorem dX7_tally_24 : decode cX7_tally 24 = .ok (.iadd, 1) := by decide +kernel
theorem dX7_tally_25 : decode cX7_tally 25 = .ok (.ifCond .ne 13, 3) := by decide +kernel
theorem dX7_tally_28 : decode cX7_tally 28 = .ok (.aload_n 0, 1) := by decide +kernel
theorem dX7_tally_29 : decode cX7_tally 29 = .ok (.dup, 1) := by decide +kernel
theorem dX7_tally_30 : decode cX7_tally 30 = .ok (.getfield 44, 3) := by decide +kernel
theorem dX7_tally_33 : decode cX7_tally 33 = .ok (.iconst 1, 1) := by decide +kernel
theorem dX7_tally_34 : decode cX7_tally 34 = .ok (.iadd, 1) := by decide +kernel
theorem dX7_tally_35 : decode cX7_tally 35 = .ok (.putfield 44, 3) := by decide +kernel
theorem dX7_tally_38 : decode cX7_tally 38 = .ok (.iload_n 2, 1) := by decide +kernel
theorem dX7_tally_39 : decode cX7_tally 39 = .ok (.iconst 1, 1) := by decide +kernel
theorem dX7_tally_40 : decode cX7_tally 40 = .ok (.if_icmp .ne 12, 3) := by decide +kernel
theorem dX7_tally_43 : decode cX7_tally 43 = .ok (.iload 4, 2) := by decide +kernel
theorem dX7_tally_45 : decode cX7_tally 45 = .ok (.iload_n 3, 1) := by decide +kernel
theorem dX7_tally_46 : decode cX7_tally 46 = .ok (.if_icmp .ge 22, 3) := by decide +kernel
theorem dX7_tally_49 : decode cX7_tally 49 = .ok (.goto 9, 3) := by decide +kernel
theorem dX7_tally_52 : decode cX7_tally 52 = .ok (.iload_n 3, 1) := by decide +kernel
theorem dX7_tally_53 : decode cX7_tally 53 = .ok (.iload 4, 2) := by decide +kernel
theorem dX7_tally_55 : decode cX7_tally 55 = .ok (.if_icmp .ge 13, 3) := by decide +kernel
theorem dX7_tally_58 : decode cX7_tally 58 = .ok (.aload_n 0, 1) := by decide +kernel
theorem dX7_tally_59 : decode cX7_tally 59 = .ok (.dup, 1) := by decide +kernel
theorem dX7_tally_60 : decode cX7_tally 60 = .ok (.getfield 41, 3) := by decide +kernel
theorem dX7_tally_63 : decode cX7_tally 63 = .ok (.iconst 1, 1) := by decide +kernel
theorem dX7_tally_64 : decode cX7_tally 64 = .ok (.iadd, 1) := by decide +kernel
theorem dX7_tally_65 : decode cX7_tally 65 = .ok (.putfield 41, 3) := by decide +kernel
theorem dX7_tally_68 : decode cX7_tally 68 = .ok (.aload_n 0, 1) := by decide +kernel
theorem dX7_tally_69 : decode cX7_tally 69 = .ok (.getfield 18, 3) := by decide +kernel
theorem dX7_tally_72 : decode cX7_tally 72 = .ok (.iload_n 1, 1) := by decide +kernel
theorem dX7_tally_73 : decode cX7_tally 73 = .ok (.dup2, 1) := by decide +kernel
theorem dX7_tally_74 : decode cX7_tally 74 = .ok (.iaload, 1) := by decide +kernel
theorem dX7_tally_75 : decode cX7_tally 75 = .ok (.iload_n 2, 1) := by decide +kernel
theorem dX7_tally_76 : decode cX7_tally 76 = .ok (.iconst 1, 1) := by decide +kernel
theorem dX7_tally_77 : decode cX7_tally 77 = .ok (.if_icmp .ne 8, 3) := by decide +kernel
theorem dX7_tally_80 : decode cX7_tally 80 = .ok (.ldc 62, 2) := by decide +kernel
theorem dX7_tally_82 : decode cX7_tally 82 = .ok (.goto 4, 3) := by decide +kernel
theorem dX7_tally_85 : decode cX7_tally 85 = .ok (.iconst 1, 1) := by decide +kernel
theorem dX7_tally_86 : decode cX7_tally 86 = .ok (.iadd, 1) := by decide +kernel
theorem dX7_tally_87 : decode cX7_tally 87 = .ok (.iastore, 1) := by decide +kernel
theorem dX7_tally_88 : decode cX7_tally 88 = .ok (.return_, 1) := by decide +kernel
theorem dX8_init_0 : decode cX8_init 0 = .ok (.aload_n 0, 1) := by decide +kernel
theorem dX8_init_1 : decode cX8_init 1 = .ok (.iconst 3, 1) := by decide +kernel
theorem dX8_init_2 : decode cX8_init 2 = .ok (.iconst 1, 1) := by decide +kernel
theorem dX8_init_3 : decode cX8_init 3 = .ok (.iload_n 1, 1) := by decide +kernel
theorem dX8_init_4 : decode cX8_init 4 = .ok (.ishl, 1) := by decide +kernel
theorem dX8_init_5 : decode cX8_init 5 = .ok (.iconst 0, 1) := by decide +kernel
theorem dX8_init_6 : decode cX8_init 6 = .ok (.iconst 1, 1) := by decide +kernel
theorem dX8_init_7 : decode cX8_init 7 = .ok (.invokespecial 3, 3) := by decide +kernel
theorem dX8_init_10 : decode cX8_init 10 = .ok (.aload_n 0, 1) := by decide +kernel
theorem dX8_init_11 : decode cX8_init 11 = .ok (.iload_n 1, 1) := by decide +kernel
theorem dX8_init_12 : decode cX8_init 12 = .ok (.invokestatic 9, 3) := by decide +kernel
theorem dX8_init_15 : decode cX8_init 15 = .ok (.putfield 15, 3) := by decide +kernel
theorem dX8_init_18 : decode cX8_init 18 = .ok (.aload_n 0, 1) := by decide +kernel
theorem dX8_init_19 : decode cX8_init 19 = .ok (.iload_n 2, 1) := by decide +kernel
theorem dX8_init_20 : decode cX8_init 20 = .ok (.putfield 19, 3) := by decide +kernel
theorem dX8_init_23 : decode cX8_init 23 = .ok (.return_, 1) := by decide +kernel
theorem dX8_cellOf_0 : decode cX8_cellOf 0 = .ok (.aload_n 0, 1) := by decide +kernel
theorem dX8_cellOf_1 : decode cX8_cellOf 1 = .ok (.getfield 22, 3) := by decide +kernel
theorem dX8_cellOf_4 : decode cX8_cellOf 4 = .ok (.getfield 26, 3) := by decide +kernel
theorem dX8_cellOf_7 : decode cX8_cellOf 7 = .ok (.iload_n 1, 1) := by decide +kernel
theorem dX8_cellOf_8 : decode cX8_cellOf 8 = .ok (.aload_n 0, 1) := by decide +kernel
theorem dX8_cellOf_9 : decode cX8_cellOf 9 = .ok (.getfield 19, 3) := by decide +kernel
theorem dX8_cellOf_12 : decode cX8_cellOf 12 = .ok (.imul, 1) := by decide +kernel
theorem dX8_cellOf_13 : decode cX8_cellOf 13 = .ok (.invokestatic 9, 3) := by decide +kernel
theorem dX8_cellOf_16 : decode cX8_cellOf 16 = .ok (.iand, 1) := by decide +kernel
theorem dX8_cellOf_17 : decode cX8_cellOf 17 = .ok (.istore_n 3, 1) := by decide +kernel
theorem dX8_cellOf_18 : decode cX8_cellOf 18 = .ok (.iload_n 1, 1) := by decide +kernel
theorem dX8_cellOf_19 : decode cX8_cellOf 19 = .ok (.aload_n 0, 1) := by decide +kernel
theorem dX8_cellOf_20 : decode cX8_cellOf 20 = .ok (.getfield 29, 3) := by decide +kernel
theorem dX8_cellOf_23 : decode cX8_cellOf 23 = .ok (.imul, 1) := by decide +kernel
theorem dX8_cellOf_24 : decode cX8_cellOf 24 = .ok (.iconst 5, 1) := by decide +kernel
theorem dX8_cellOf_25 : decode cX8_cellOf 25 = .ok (.iload_n 2, 1) := by decide +kernel
theorem dX8_cellOf_26 : decode cX8_cellOf 26 = .ok (.imul, 1) := by decide +kernel
theorem dX8_cellOf_27 : decode cX8_cellOf 27 = .ok (.iload_n 3, 1) := by decide +kernel
theorem dX8_cellOf_28 : decode cX8_cellOf 28 = .ok (.ixor, 1) := by decide +kernel
theorem dX8_cellOf_29 : decode cX8_cellOf 29 = .ok (.aload_n 0, 1) := by decide +kernel
theorem dX8_cellOf_30 : decode cX8_cellOf 30 = .ok (.getfield 15, 3) := by decide +kernel
theorem dX8_cellOf_33 : decode cX8_cellOf 33 = .ok (.iand, 1) := by decide +kernel
theorem dX8_cellOf_34 : decode cX8_cellOf 34 = .ok (.iadd, 1) := by decide +kernel
theorem dX8_cellOf_35 : decode cX8_cellOf 35 = .ok (.ireturn, 1) := by decide +kernel
theorem dX8_ownWay_0 : decode cX8_ownWay 0 = .ok (.iconst 0, 1) := by decide +kernel
theorem dX8_ownWay_1 : decode cX8_ownWay 1 = .ok (.istore_n 2, 1) := by decide +kernel
theorem dX8_ownWay_2 : decode cX8_ownWay 2 = .ok (.iconst 0, 1) := by decide +kernel
theorem dX8_ownWay_3 : decode cX8_ownWay 3 = .ok (.istore_n 3, 1) := by decide +kernel
theorem dX8_ownWay_4 : decode cX8_ownWay 4 = .ok (.iload_n 3, 1) := by decide +kernel
theorem dX8_ownWay_5 : decode cX8_ownWay 5 = .ok (.iconst 3, 1) := by decide +kernel
theorem dX8_ownWay_6 : decode cX8_ownWay 6 = .ok (.if_icmp .ge 25, 3) := by decide +kernel
theorem dX8_ownWay_9 : decode cX8_ownWay 9 = .ok (.iload_n 2, 1) := by decide +kernel
theorem dX8_ownWay_10 : decode cX8_ownWay 10 = .ok (.aload_n 0, 1) := by decide +kernel
theorem dX8_ownWay_11 : decode cX8_ownWay 11 = .ok (.getfield 22, 3) := by decide +kernel
theorem dX8_ownWay_14 : decode cX8_ownWay 14 = .ok (.aload_n 0, 1) := by decide +kernel
theorem dX8_ownWay_15 : decode cX8_ownWay 15 = .ok (.iload_n 3, 1) := by decide +kernel
theorem dX8_ownWay_16 : decode cX8_ownWay 16 = .ok (.iload_n 1, 1) := by decide +kernel
theorem dX8_ownWay_17 : decode cX8_ownWay 17 = .ok (.invokevirtual 32, 3) := by decide +kernel
theorem dX8_ownWay_20 : decode cX8_ownWay 20 = .ok (.invokevirtual 36, 3) := by decide +kernel
theorem dX8_ownWay_23 : decode cX8_ownWay 23 = .ok (.iadd, 1) := by decide +kernel
theorem dX8_ownWay_24 : decode cX8_ownWay 24 = .ok (.istore_n 2, 1) := by decide +kernel
theorem dX8_ownWay_25 : decode cX8_ownWay 25 = .ok (.iinc 3 1, 3) := by decide +kernel
theorem dX8_ownWay_28 : decode cX8_ownWay 28 = .ok (.goto (-24), 3) := by decide +kernel
theorem dX8_ownWay_31 : decode cX8_ownWay 31 = .ok (.iload_n 2, 1) := by decide +kernel
theorem dX8_ownWay_32 : decode cX8_ownWay 32 = .ok (.iconst 2, 1) := by decide +kernel
theorem dX8_ownWay_33 : decode cX8_ownWay 33 = .ok (.if_icmp .lt 7, 3) := by decide +kernel
theorem dX8_ownWay_36 : decode cX8_ownWay 36 = .ok (.iconst 1, 1) := by decide +kernel
theorem dX8_ownWay_37 : decode cX8_ownWay 37 = .ok (.goto 4, 3) := by decide +kernel
theorem dX8_ownWay_40 : decode cX8_ownWay 40 = .ok (.iconst 0, 1) := by decide +kernel
theorem dX8_ownWay_41 : decode cX8_ownWay 41 = .ok (.ireturn, 1) := by decide +kernel
theorem dX8_learn_0 : decode cX8_learn 0 = .ok (.iconst 0, 1) := by decide +kernel
theorem dX8_learn_1 : decode cX8_learn 1 = .ok (.istore_n 3, 1) := by decide +kernel
theorem dX8_learn_2 : decode cX8_learn 2 = .ok (.iload_n 3, 1) := by decide +kernel
theorem dX8_learn_3 : decode cX8_learn 3 = .ok (.iconst 3, 1) := by decide +kernel
theorem dX8_learn_4 : decode cX8_learn 4 = .ok (.if_icmp .ge 23, 3) := by decide +kernel
theorem dX8_learn_7 : decode cX8_learn 7 = .ok (.aload_n 0, 1) := by decide +kernel
theorem dX8_learn_8 : decode cX8_learn 8 = .ok (.getfield 22, 3) := by decide +kernel
theorem dX8_learn_11 : decode cX8_learn 11 = .ok (.aload_n 0, 1) := by decide +kernel
theorem dX8_learn_12 : decode cX8_learn 12 = .ok (.iload_n 3, 1) := by decide +kernel
theorem dX8_learn_13 : decode cX8_learn 13 = .ok (.iload_n 1, 1) := by decide +kernel
theorem dX8_learn_14 : decode cX8_learn 14 = .ok (.invokevirtual 32, 3) := by decide +kernel
theorem dX8_learn_17 : decode cX8_learn 17 = .ok (.iload_n 2, 1) := by decide +kernel
theorem dX8_learn_18 : decode cX8_learn 18 = .ok (.invokevirtual 39, 3) := by decide +kernel
theorem dX8_learn_21 : decode cX8_learn 21 = .ok (.iinc 3 1, 3) := by decide +kernel
theorem dX8_learn_24 : decode cX8_learn 24 = .ok (.goto (-22), 3) := by decide +kernel
theorem dX8_learn_27 : decode cX8_learn 27 = .ok (.return_, 1) := by decide +kernel
theorem dX8_slotOf_0 : decode cX8_slotOf 0 = .ok (.iconst (-1), 1) := by decide +kernel
theorem dX8_slotOf_1 : decode cX8_slotOf 1 = .ok (.ireturn, 1) := by decide +kernel
theorem dX9_init_0 : decode cX9_init 0 = .ok (.aload_n 0, 1) := by decide +kernel
theorem dX9_init_1 : decode cX9_init 1 = .ok (.iconst 1, 1) := by decide +kernel
theorem dX9_init_2 : decode cX9_init 2 = .ok (.iload_n 1, 1) := by decide +kernel
theorem dX9_init_3 : decode cX9_init 3 = .ok (.ishl, 1) := by decide +kernel
theorem dX9_init_4 : decode cX9_init 4 = .ok (.iload_n 2, 1) := by decide +kernel
theorem dX9_init_5 : decode cX9_init 5 = .ok (.iconst 1, 1) := by decide +kernel
theorem dX9_init_6 : decode cX9_init 6 = .ok (.iadd, 1) := by decide +kernel
theorem dX9_init_7 : decode cX9_init 7 = .ok (.iconst 1, 1) := by decide +kernel
theorem dX9_init_8 : decode cX9_init 8 = .ok (.iload_n 1, 1) := by decide +kernel
theorem dX9_init_9 : decode cX9_init 9 = .ok (.ishl, 1) := by decide +kernel
theorem dX9_init_10 : decode cX9_init 10 = .ok (.iconst 0, 1) := by decide +kernel
theorem dX9_init_11 : decode cX9_init 11 = .ok (.invokespecial 1, 3) := by decide +kernel
theorem dX9_init_14 : decode cX9_init 14 = .ok (.aload_n 0, 1) := by decide +kernel
theorem dX9_init_15 : decode cX9_init 15 = .ok (.iload_n 1, 1) := by decide +kernel
theorem dX9_init_16 : decode cX9_init 16 = .ok (.invokestatic 7, 3) := by decide +kernel
theorem dX9_init_19 : decode cX9_init 19 = .ok (.putfield 13, 3) := by decide +kernel
theorem dX9_init_22 : decode cX9_init 22 = .ok (.aload_n 0, 1) := by decide +kernel
theorem dX9_init_23 : decode cX9_init 23 = .ok (.iload_n 3, 1) := by decide +kernel
theorem dX9_init_24 : decode cX9_init 24 = .ok (.putfield 19, 3) := by decide +kernel
theorem dX9_init_27 : decode cX9_init 27 = .ok (.return_, 1) := by decide +kernel
theorem dX9_slotOf_0 : decode cX9_slotOf 0 = .ok (.iload_n 1, 1) := by decide +kernel
theorem dX9_slotOf_1 : decode cX9_slotOf 1 = .ok (.aload_n 0, 1) := by decide +kernel
theorem dX9_slotOf_2 : decode cX9_slotOf 2 = .ok (.getfield 13, 3) := by decide +kernel
theorem dX9_slotOf_5 : decode cX9_slotOf 5 = .ok (.iand, 1) := by decide +kernel
theorem dX9_slotOf_6 : decode cX9_slotOf 6 = .ok (.ireturn, 1) := by decide +kernel
theorem dX9_bitOf_0 : decode cX9_bitOf 0 = .ok (.iload_n 1, 1) := by decide +kernel
theorem dX9_bitOf_1 : decode cX9_bitOf 1 = .ok (.ifCond .ne 7, 3) := by decide +kernel
theorem dX9_bitOf_4 : decode cX9_bitOf 4 = .ok (.iconst 1, 1) := by decide +kernel
theorem dX9_bitOf_5 : decode cX9_bitOf 5 = .ok (.goto 16, 3) := by decide +kernel
theorem dX9_bitOf_8 : decode cX9_bitOf 8 = .ok (.aload_n 0, 1) := by decide +kernel
theorem dX9_bitOf_9 : decode cX9_bitOf 9 = .ok (.getfield 22, 3) := by decide +kernel
theorem dX9_bitOf_12 : decode cX9_bitOf 12 = .ok (.getfield 26, 3) := by decide +kernel
theorem dX9_bitOf_15 : decode cX9_bitOf 15 = .ok (.iload_n 1, 1) := by decide +kernel
theorem dX9_bitOf_16 : decode cX9_bitOf 16 = .ok (.iconst 1, 1) := by decide +kernel
theorem dX9_bitOf_17 : decode cX9_bitOf 17 = .ok (.isub, 1) := by decide +kernel
theorem dX9_bitOf_18 : decode cX9_bitOf 18 = .ok (.ishr, 1) := by decide +kernel
theorem dX9_bitOf_19 : decode cX9_bitOf 19 = .ok (.iconst 1, 1) := by decide +kernel
theorem dX9_bitOf_20 : decode cX9_bitOf 20 = .ok (.iand, 1) := by decide +kernel
theorem dX9_bitOf_21 : decode cX9_bitOf 21 = .ok (.ireturn, 1) := by decide +kernel
theorem dX9_sumAt_0 : decode cX9_sumAt 0 = .ok (.aload_n 0, 1) := by decide +kernel
theorem dX9_sumAt_1 : decode cX9_sumAt 1 = .ok (.iload_n 1, 1) := by decide +kernel
theorem dX9_sumAt_2 : decode cX9_sumAt 2 = .ok (.invokevirtual 31, 3) := by decide +kernel
theorem dX9_sumAt_5 : decode cX9_sumAt 5 = .ok (.aload_n 0, 1) := by decide +kernel
theorem dX9_sumAt_6 : decode cX9_sumAt 6 = .ok (.getfield 34, 3) := by decide +kernel
theorem dX9_sumAt_9 : decode cX9_sumAt 9 = .ok (.imul, 1) := by decide +kernel
theorem dX9_sumAt_10 : decode cX9_sumAt 10 = .ok (.istore_n 2, 1) := by decide +kernel
theorem dX9_sumAt_11 : decode cX9_sumAt 11 = .ok (.iconst 0, 1) := by decide +kernel
theorem dX9_sumAt_12 : decode cX9_sumAt 12 = .ok (.istore_n 3, 1) := by decide +kernel
theorem dX9_sumAt_13 : decode cX9_sumAt 13 = .ok (.iconst 0, 1) := by decide +kernel
theorem dX9_sumAt_14 : decode cX9_sumAt 14 = .ok (.istore 4, 2) := by decide +kernel
theorem dX9_sumAt_16 : decode cX9_sumAt 16 = .ok (.iload 4, 2) := by decide +kernel
theorem dX9_sumAt_18 : decode cX9_sumAt 18 = .ok (.aload_n 0, 1) := by decide +kernel
theorem dX9_sumAt_19 : decode cX9_sumAt 19 = .ok (.getfield 34, 3) := by decide +kernel
theorem dX9_sumAt_22 : decode cX9_sumAt 22 = .ok (.if_icmp .ge 50, 3) := by decide +kernel
theorem dX9_sumAt_25 : decode cX9_sumAt 25 = .ok (.iload_n 3, 1) := by decide +kernel
theorem dX9_sumAt_26 : decode cX9_sumAt 26 = .ok (.aload_n 0, 1) := by decide +kernel
theorem dX9_sumAt_27 : decode cX9_sumAt 27 = .ok (.iload 4, 2) := by decide +kernel
theorem dX9_sumAt_29 : decode cX9_sumAt 29 = .ok (.invokevirtual 37, 3) := by decide +kernel
theorem dX9_sumAt_32 : decode cX9_sumAt 32 = .ok (.iconst 1, 1) := by decide +kernel
theorem dX9_sumAt_33 : decode cX9_sumAt 33 = .ok (.if_icmp .ne 18, 3) := by decide +kernel
theorem dX9_sumAt_36 : decode cX9_sumAt 36 = .ok (.aload_n 0, 1) := by decide +kernel
theorem dX9_sumAt_37 : decode cX9_sumAt 37 = .ok (.getfield 22, 3) := by decide +kernel
theorem dX9_sumAt_40 : decode cX9_sumAt 40 = .ok (.getfield 40, 3) := by decide +kernel
theorem dX9_sumAt_43 : decode cX9_sumAt 43 = .ok (.iload_n 2, 1) := by decide +kernel
theorem dX9_sumAt_44 : decode cX9_sumAt 44 = .ok (.iload 4, 2) := by decide +kernel
theorem dX9_sumAt_46 : decode cX9_sumAt 46 = .ok (.iadd, 1) := by decide +kernel
theorem dX9_sumAt_47 : decode cX9_sumAt 47 = .ok (.iaload, 1) := by decide +kernel
theorem dX9_sumAt_48 : decode cX9_sumAt 48 = .ok (.goto 16, 3) := by decide +kernel
theorem dX9_sumAt_51 : decode cX9_sumAt 51 = .ok (.aload_n 0, 1) := by decide +kernel
theorem dX9_sumAt_52 : decode cX9_sumAt 52 = .ok (.getfield 22, 3) := by decide +kernel
theorem dX9_sumAt_55 : decode cX9_sumAt 55 = .ok (.getfield 40, 3) := by decide +kernel
theorem dX9_sumAt_58 : decode cX9_sumAt 58 = .ok (.iload_n 2, 1) := by decide +kernel
theorem dX9_sumAt_59 : decode cX9_sumAt 59 = .ok (.iload 4, 2) := by decide +kernel
theorem dX9_sumAt_61 : decode cX9_sumAt 61 = .ok (.iadd, 1) := by decide +kernel
theorem dX9_sumAt_62 : decode cX9_sumAt 62 = .ok (.iaload, 1) := by decide +kernel
theorem dX9_sumAt_63 : decode cX9_sumAt 63 = .ok (.ineg, 1) := by decide +kernel
theorem dX9_sumAt_64 : decode cX9_sumAt 64 = .ok (.iadd, 1) := by decide +kernel
theorem dX9_sumAt_65 : decode cX9_sumAt 65 = .ok (.istore_n 3, 1) := by decide +kernel
theorem dX9_sumAt_66 : decode cX9_sumAt 66 = .ok (.iinc 4 1, 3) := by decide +kernel
theorem dX9_sumAt_69 : decode cX9_sumAt 69 = .ok (.goto (-53), 3) := by decide +kernel
theorem dX9_sumAt_72 : decode cX9_sumAt 72 = .ok (.iload_n 3, 1) := by decide +kernel
theorem dX9_sumAt_73 : decode cX9_sumAt 73 = .ok (.ireturn, 1) := by decide +kernel
theorem dX9_ownWay_0 : decode cX9_ownWay 0 = .ok (.aload_n 0, 1) := by decide +kernel
theorem dX9_ownWay_1 : decode cX9_ownWay 1 = .ok (.iload_n 1, 1) := by decide +kernel
theorem dX9_ownWay_2 : decode cX9_ownWay 2 = .ok (.invokevirtual 44, 3) := by decide +kernel
theorem dX9_ownWay_5 : decode cX9_ownWay 5 = .ok (.ifCond .lt 7, 3) := by decide +kernel
theorem dX9_ownWay_8 : decode cX9_ownWay 8 = .ok (.iconst 1, 1) := by decide +kernel
theorem dX9_ownWay_9 : decode cX9_ownWay 9 = .ok (.goto 4, 3) := by decide +kernel
theorem dX9_ownWay_12 : decode cX9_ownWay 12 = .ok (.iconst 0, 1) := by decide +kernel
theorem dX9_ownWay_13 : decode cX9_ownWay 13 = .ok (.ireturn, 1) := by decide +kernel
theorem dX9_learn_0 : decode cX9_learn 0 = .ok (.aload_n 0, 1) := by decide +kernel
theorem dX9_learn_1 : decode cX9_learn 1 = .ok (.iload_n 1, 1) := by decide +kernel
theorem dX9_learn_2 : decode cX9_learn 2 = .ok (.invokevirtual 44, 3) := by decide +kernel
theorem dX9_learn_5 : decode cX9_learn 5 = .ok (.istore_n 3, 1) := by decide +kernel
theorem dX9_learn_6 : decode cX9_learn 6 = .ok (.iload_n 3, 1) := by decide +kernel
theorem dX9_learn_7 : decode cX9_learn 7 = .ok (.ifCond .lt 7, 3) := by decide +kernel
theorem dX9_learn_10 : decode cX9_learn 10 = .ok (.iconst 1, 1) := by decide +kernel
theorem dX9_learn_11 : decode cX9_learn 11 = .ok (.goto 4, 3) := by decide +kernel
theorem dX9_learn_14 : decode cX9_learn 14 = .ok (.iconst 0, 1) := by decide +kernel
theorem dX9_learn_15 : decode cX9_learn 15 = .ok (.iload_n 2, 1) := by decide +kernel
theorem dX9_learn_16 : decode cX9_learn 16 = .ok (.iconst 1, 1) := by decide +kernel
theorem dX9_learn_17 : decode cX9_learn 17 = .ok (.if_icmp .ne 7, 3) := by decide +kernel
theorem dX9_learn_20 : decode cX9_learn 20 = .ok (.iconst 1, 1) := by decide +kernel
theorem dX9_learn_21 : decode cX9_learn 21 = .ok (.goto 4, 3) := by decide +kernel
theorem dX9_learn_24 : decode cX9_learn 24 = .ok (.iconst 0, 1) := by decide +kernel
theorem dX9_learn_25 : decode cX9_learn 25 = .ok (.if_icmp .ne 7, 3) := by decide +kernel
theorem dX9_learn_28 : decode cX9_learn 28 = .ok (.iconst 1, 1) := by decide +kernel
theorem dX9_learn_29 : decode cX9_learn 29 = .ok (.goto 4, 3) := by decide +kernel
theorem dX9_learn_32 : decode cX9_learn 32 = .ok (.iconst 0, 1) := by decide +kernel
theorem dX9_learn_33 : decode cX9_learn 33 = .ok (.istore 4, 2) := by decide +kernel
theorem dX9_learn_35 : decode cX9_learn 35 = .ok (.iload 4, 2) := by decide +kernel
theorem dX9_learn_37 : decode cX9_learn 37 = .ok (.ifCond .eq 15, 3) := by decide +kernel
theorem dX9_learn_40 : decode cX9_learn 40 = .ok (.iload_n 3, 1) := by decide +kernel
theorem dX9_learn_41 : decode cX9_learn 41 = .ok (.invokestatic 47, 3) := by decide +kernel
theorem dX9_learn_44 : decode cX9_learn 44 = .ok (.aload_n 0, 1) := by decide +kernel
theorem dX9_learn_45 : decode cX9_learn 45 = .ok (.getfield 19, 3) := by decide +kernel
theorem dX9_learn_48 : decode cX9_learn 48 = .ok (.if_icmp .le 4, 3) := by decide +kernel
theorem dX9_learn_51 : decode cX9_learn 51 = .ok (.return_, 1) := by decide +kernel
theorem dX9_learn_52 : decode cX9_learn 52 = .ok (.aload_n 0, 1) := by decide +kernel
theorem dX9_learn_53 : decode cX9_learn 53 = .ok (.iload_n 1, 1) := by decide +kernel
theorem dX9_learn_54 : decode cX9_learn 54 = .ok (.invokevirtual 31, 3) := by decide +kernel
theorem dX9_learn_57 : decode cX9_learn 57 = .ok (.aload_n 0, 1) := by decide +kernel
theorem dX9_learn_58 : decode cX9_learn 58 = .ok (.getfield 34, 3) := by decide +kernel
theorem dX9_learn_61 : decode cX9_learn 61 = .ok (.imul, 1) := by decide +kernel
theorem dX9_learn_62 : decode cX9_learn 62 = .ok (.istore 5, 2) := by decide +kernel
theorem dX9_learn_64 : decode cX9_learn 64 = .ok (.iconst 0, 1) := by decide +kernel
theorem dX9_learn_65 : decode cX9_learn 65 = .ok (.istore 6, 2) := by decide +kernel
theorem dX9_learn_67 : decode cX9_learn 67 = .ok (.iload 6, 2) := by decide +kernel
theorem dX9_learn_69 : decode cX9_learn 69 = .ok (.aload_n 0, 1) := by decide +kernel
theorem dX9_learn_70 : decode cX9_learn 70 = .ok (.getfield 34, 3) := by decide +kernel
theorem dX9_learn_73 : decode cX9_learn 73 = .ok (.if_icmp .ge 65, 3) := by decide +kernel
theorem dX9_learn_76 : decode cX9_learn 76 = .ok (.aload_n 0, 1) := by decide +kernel
theorem dX9_learn_77 : decode cX9_learn 77 = .ok (.getfield 22, 3) := by decide +kernel
theorem dX9_learn_80 : decode cX9_learn 80 = .ok (.getfield 40, 3) := by decide +kernel
theorem dX9_learn_83 : decode cX9_learn 83 = .ok (.iload 5, 2) := by decide +kernel
theorem dX9_learn_85 : decode cX9_learn 85 = .ok (.iload 6, 2) := by decide +kernel
theorem dX9_learn_87 : decode cX9_learn 87 = .ok (.iadd, 1) := by decide +kernel
theorem dX9_learn_88 : decode cX9_learn 88 = .ok (.iaload, 1) := by decide +kernel
theorem dX9_learn_89 : decode cX9_learn 89 = .ok (.aload_n 0, 1) := by decide +kernel
theorem dX9_learn_90 : decode cX9_learn 90 = .ok (.iload 6, 2) := by decide +kernel
theorem dX9_learn_92 : decode cX9_learn 92 = .ok (.invokevirtual 37, 3) := by decide +kernel
theorem dX9_learn_95 : decode cX9_learn 95 = .ok (.iload_n 2, 1) := by decide +kernel
theorem dX9_learn_96 : decode cX9_learn 96 = .ok (.if_icmp .ne 7, 3) := by decide +kernel
theorem dX9_learn_99 : decode cX9_learn 99 = .ok (.iconst 1, 1) := by decide +kernel
theorem dX9_learn_100 : decode cX9_learn 100 = .ok (.goto 4, 3) := by decide +kernel
theorem dX9_learn_103 : decode cX9_learn 103 = .ok (.iconst (-1), 1) := by decide +kernel
theorem dX9_learn_104 : decode cX9_learn 104 = .ok (.iadd, 1) := by decide +kernel
theorem dX9_learn_105 : decode cX9_learn 105 = .ok (.istore 7, 2) := by decide +kernel
theorem dX9_learn_107 : decode cX9_learn 107 = .ok (.aload_n 0, 1) := by decide +kernel
theorem dX9_learn_108 : decode cX9_learn 108 = .ok (.getfield 22, 3) := by decide +kernel
theorem dX9_learn_111 : decode cX9_learn 111 = .ok (.getfield 40, 3) := by decide +kernel
theorem dX9_learn_114 : decode cX9_learn 114 = .ok (.iload 5, 2) := by decide +kernel
theorem dX9_learn_116 : decode cX9_learn 116 = .ok (.iload 6, 2) := by decide +kernel
theorem dX9_learn_118 : decode cX9_learn 118 = .ok (.iadd, 1) := by decide +kernel
theorem dX9_learn_119 : decode cX9_learn 119 = .ok (.bipush (-64), 2) := by decide +kernel
theorem dX9_learn_121 : decode cX9_learn 121 = .ok (.bipush 63, 2) := by decide +kernel
theorem dX9_learn_123 : decode cX9_learn 123 = .ok (.iload 7, 2) := by decide +kernel
theorem dX9_learn_125 : decode cX9_learn 125 = .ok (.invokestatic 52, 3) := by decide +kernel
theorem dX9_learn_128 : decode cX9_learn 128 = .ok (.invokestatic 56, 3) := by decide +kernel
theorem dX9_learn_131 : decode cX9_learn 131 = .ok (.iastore, 1) := by decide +kernel
theorem dX9_learn_132 : decode cX9_learn 132 = .ok (.iinc 6 1, 3) := by decide +kernel
theorem dX9_learn_135 : decode cX9_learn 135 = .ok (.goto (-68), 3) := by decide +kernel
theorem dX9_learn_138 : decode cX9_learn 138 = .ok (.return_, 1) := by decide +kernel
theorem dX10_init_0 : decode cX10_init 0 = .ok (.aload_n 0, 1) := by decide +kernel
theorem dX10_init_1 : decode cX10_init 1 = .ok (.invokespecial 3, 3) := by decide +kernel
theorem dX10_init_4 : decode cX10_init 4 = .ok (.aload_n 0, 1) := by decide +kernel
theorem dX10_init_5 : decode cX10_init 5 = .ok (.new 9, 3) := by decide +kernel
theorem dX10_init_8 : decode cX10_init 8 = .ok (.dup, 1) := by decide +kernel
theorem dX10_init_9 : decode cX10_init 9 = .ok (.invokespecial 11, 3) := by decide +kernel
theorem dX10_init_12 : decode cX10_init 12 = .ok (.putfield 12, 3) := by decide +kernel
theorem dX10_init_15 : decode cX10_init 15 = .ok (.aload_n 0, 1) := by decide +kernel
theorem dX10_init_16 : decode cX10_init 16 = .ok (.new 16, 3) := by decide +kernel
theorem dX10_init_19 : decode cX10_init 19 = .ok (.dup, 1) := by decide +kernel
theorem dX10_init_20 : decode cX10_init 20 = .ok (.invokespecial 18, 3) := by decide +kernel
theorem dX10_init_23 : decode cX10_init 23 = .ok (.putfield 19, 3) := by decide +kernel
theorem dX10_init_26 : decode cX10_init 26 = .ok (.aload_n 0, 1) := by decide +kernel
theorem dX10_init_27 : decode cX10_init 27 = .ok (.bipush 8, 2) := by decide +kernel
theorem dX10_init_29 : decode cX10_init 29 = .ok (.anewarray 23, 3) := by decide +kernel
theorem dX10_init_32 : decode cX10_init 32 = .ok (.putfield 25, 3) := by decide +kernel
theorem dX10_init_35 : decode cX10_init 35 = .ok (.return_, 1) := by decide +kernel
theorem dX10_op_0 : decode cX10_op 0 = .ok (.iload_n 1, 1) := by decide +kernel
theorem dX10_op_1 : decode cX10_op 1 = .ok (.invokestatic 29, 3) := by decide +kernel
theorem dX10_op_4 : decode cX10_op 4 = .ok (.ifCond .ne 5, 3) := by decide +kernel
theorem dX10_op_7 : decode cX10_op 7 = .ok (.iconst (-1), 1) := by decide +kernel
theorem dX10_op_8 : decode cX10_op 8 = .ok (.ireturn, 1) := by decide +kernel
theorem dX10_op_9 : decode cX10_op 9 = .ok (.iload_n 2, 1) := by decide +kernel
theorem dX10_op_10 : decode cX10_op 10 = .ok (.iconst 0, 1) := by decide +kernel
theorem dX10_op_11 : decode cX10_op 11 = .ok (.bipush 12, 2) := by decide +kernel
theorem dX10_op_13 : decode cX10_op 13 = .ok (.invokestatic 33, 3) := by decide +kernel
theorem dX10_op_16 : decode cX10_op 16 = .ok (.ifCond .eq 18, 3) := by decide +kernel
theorem dX10_op_19 : decode cX10_op 19 = .ok (.iload_n 3, 1) := by decide +kernel
theorem dX10_op_20 : decode cX10_op 20 = .ok (.invokestatic 37, 3) := by decide +kernel
theorem dX10_op_23 : decode cX10_op 23 = .ok (.ifCond .eq 11, 3) := by decide +kernel
theorem dX10_op_26 : decode cX10_op 26 = .ok (.iload 4, 2) := by decide +kernel
theorem dX10_op_28 : decode cX10_op 28 = .ok (.invokestatic 37, 3) := by decide +kernel
theorem dX10_op_31 : decode cX10_op 31 = .ok (.ifCond .ne 6, 3) := by decide +kernel
theorem dX10_op_34 : decode cX10_op 34 = .ok (.bipush (-2), 2) := by decide +kernel
theorem dX10_op_36 : decode cX10_op 36 = .ok (.ireturn, 1) := by decide +kernel
theorem dX10_op_37 : decode cX10_op 37 = .ok (.iload_n 2, 1) := by decide +kernel
theorem dX10_op_38 : decode cX10_op 38 = .ok (.bipush 9, 2) := by decide +kernel
theorem dX10_op_40 : decode cX10_op 40 = .ok (.if_icmp .lt 14, 3) := by decide +kernel
theorem dX10_op_43 : decode cX10_op 43 = .ok (.iload 5, 2) := by decide +kernel
theorem dX10_op_45 : decode cX10_op 45 = .ok (.invokestatic 29, 3) := by decide +kernel
theorem dX10_op_48 : decode cX10_op 48 = .ok (.ifCond .ne 6, 3) := by decide +kernel
theorem dX10_op_51 : decode cX10_op 51 = .ok (.bipush (-2), 2) := by decide +kernel
theorem dX10_op_53 : decode cX10_op 53 = .ok (.ireturn, 1) := by decide +kernel
theorem dX10_op_54 : decode cX10_op 54 = .ok (.aload_n 0, 1) := by decide +kernel
theorem dX10_op_55 : decode cX10_op 55 = .ok (.getfield 12, 3) := by decide +kernel
theorem dX10_op_58 : decode cX10_op 58 = .ok (.getfield 40, 3) := by decide +kernel
theorem dX10_op_61 : decode cX10_op 61 = .ok (.iload_n 1, 1) := by decide +kernel
theorem dX10_op_62 : decode cX10_op 62 = .ok (.iaload, 1) := by decide +kernel
theorem dX10_op_63 : decode cX10_op 63 = .ok (.istore 6, 2) := by decide +kernel
theorem dX10_op_65 : decode cX10_op 65 = .ok (.aload_n 0, 1) := by decide +kernel
theorem dX10_op_66 : decode cX10_op 66 = .ok (.getfield 12, 3) := by decide +kernel
theorem dX10_op_69 : decode cX10_op 69 = .ok (.iload_n 1, 1) := by decide +kernel
theorem dX10_op_70 : decode cX10_op 70 = .ok (.iload_n 2, 1) := by decide +kernel
theorem dX10_op_71 : decode cX10_op 71 = .ok (.iload_n 3, 1) := by decide +kernel
theorem dX10_op_72 : decode cX10_op 72 = .ok (.iload 4, 2) := by decide +kernel
theorem dX10_op_74 : decode cX10_op 74 = .ok (.iload 5, 2) := by decide +kernel
theorem dX10_op_76 : decode cX10_op 76 = .ok (.invokevirtual 44, 3) := by decide +kernel
theorem dX10_op_79 : decode cX10_op 79 = .ok (.iload 6, 2) := by decide +kernel
theorem dX10_op_81 : decode cX10_op 81 = .ok (.ireturn, 1) := by decide +kernel
theorem dX10_register_0 : decode cX10_register 0 = .ok (.iload_n 1, 1) := by decide +kernel
theorem dX10_register_1 : decode cX10_register 1 = .ok (.invokestatic 37, 3) := by decide +kernel
theorem dX10_register_4 : decode cX10_register 4 = .ok (.ifCond .ne 6, 3) := by decide +kernel
theorem dX10_register_7 : decode cX10_register 7 = .ok (.bipush (-2), 2) := by decide +kernel
theorem dX10_register_9 : decode cX10_register 9 = .ok (.ireturn, 1) := by decide +kernel
theorem dX10_register_10 : decode cX10_register 10 = .ok (.aload_n 0, 1) := by decide +kernel
theorem dX10_register_11 : decode cX10_register 11 = .ok (.getfield 12, 3) := by decide +kernel
theorem dX10_register_14 : decode cX10_register 14 = .ok (.getfield 48, 3) := by decide +kernel
theorem dX10_register_17 : decode cX10_register 17 = .ok (.iload_n 1, 1) := by decide +kernel
theorem dX10_register_18 : decode cX10_register 18 = .ok (.iload_n 2, 1) := by decide +kernel
theorem dX10_register_19 : decode cX10_register 19 = .ok (.iastore, 1) := by decide +kernel
theorem dX10_register_20 : decode cX10_register 20 = .ok (.iconst 1, 1) := by decide +kernel
theorem dX10_register_21 : decode cX10_register 21 = .ok (.ireturn, 1) := by decide +kernel
theorem dX10_value_0 : decode cX10_value 0 = .ok (.iload_n 1, 1) := by decide +kernel
theorem dX10_value_1 : decode cX10_value 1 = .ok (.invokestatic 37, 3) := by decide +kernel
theorem dX10_value_4 : decode cX10_value 4 = .ok (.ifCond .eq 15, 3) := by decide +kernel
theorem dX10_value_7 : decode cX10_value 7 = .ok (.aload_n 0, 1) := by decide +kernel
theorem dX10_value_8 : decode cX10_value 8 = .ok (.getfield 12, 3) := by decide +kernel
theorem dX10_value_11 : decode cX10_value 11 = .ok (.getfield 48, 3) := by decide +kernel
theorem dX10_value_14 : decode cX10_value 14 = .ok (.iload_n 1, 1) := by decide +kernel
theorem dX10_value_15 : decode cX10_value 15 = .ok (.iaload, 1) := by decide +kernel
theorem dX10_value_16 : decode cX10_value 16 = .ok (.goto 4, 3) := by decide +kernel
theorem dX10_value_19 : decode cX10_value 19 = .ok (.iconst 0, 1) := by decide +kernel
theorem dX10_value_20 : decode cX10_value 20 = .ok (.ireturn, 1) := by decide +kernel
theorem dX10_data_0 : decode cX10_data 0 = .ok (.iload_n 1, 1) := by decide +kernel
theorem dX10_data_1 : decode cX10_data 1 = .ok (.invokestatic 51, 3) := by decide +kernel
theorem dX10_data_4 : decode cX10_data 4 = .ok (.ifCond .ne 6, 3) := by decide +kernel
theorem dX10_data_7 : decode cX10_data 7 = .ok (.bipush (-2), 2) := by decide +kernel
theorem dX10_data_9 : decode cX10_data 9 = .ok (.ireturn, 1) := by decide +kernel
theorem dX10_data_10 : decode cX10_data 10 = .ok (.aload_n 0, 1) := by decide +kernel
theorem dX10_data_11 : decode cX10_data 11 = .ok (.getfield 12, 3) := by decide +kernel
theorem dX10_data_14 : decode cX10_data 14 = .ok (.getfield 54, 3) := by decide +kernel
theorem dX10_data_17 : decode cX10_data 17 = .ok (.iload_n 1, 1) := by decide +kernel
theorem dX10_data_18 : decode cX10_data 18 = .ok (.iload_n 2, 1) := by decide +kernel
theorem dX10_data_19 : decode cX10_data 19 = .ok (.iastore, 1) := by decide +kernel
theorem dX10_data_20 : decode cX10_data 20 = .ok (.iconst 1, 1) := by decide +kernel
theorem dX10_data_21 : decode cX10_data 21 = .ok (.ireturn, 1) := by decide +kernel
theorem dX10_stored_0 : decode cX10_stored 0 = .ok (.iload_n 1, 1) := by decide +kernel
theorem dX10_stored_1 : decode cX10_stored 1 = .ok (.invokestatic 51, 3) := by decide +kernel
theorem dX10_stored_4 : decode cX10_stored 4 = .ok (.ifCond .eq 15, 3) := by decide +kernel
theorem dX10_stored_7 : decode cX10_stored 7 = .ok (.aload_n 0, 1) := by decide +kernel
theorem dX10_stored_8 : decode cX10_stored 8 = .ok (.getfield 12, 3) := by decide +kernel
theorem dX10_stored_11 : decode cX10_stored 11 = .ok (.getfield 54, 3) := by decide +kernel
theorem dX10_stored_14 : decode cX10_stored 14 = .ok (.iload_n 1, 1) := by decide +kernel
theorem dX10_stored_15 : decode cX10_stored 15 = .ok (.iaload, 1) := by decide +kernel
theorem dX10_stored_16 : decode cX10_stored 16 = .ok (.goto 4, 3) := by decide +kernel
theorem dX10_stored_19 : decode cX10_stored 19 = .ok (.iconst 0, 1) := by decide +kernel
theorem dX10_stored_20 : decode cX10_stored 20 = .ok (.ireturn, 1) := by decide +kernel
theorem dX10_stand_0 : decode cX10_stand 0 = .ok (.iload_n 1, 1) := by decide +kernel
theorem dX10_stand_1 : decode cX10_stand 1 = .ok (.invokestatic 29, 3) := by decide +kernel
theorem dX10_stand_4 : decode cX10_stand 4 = .ok (.ifCond .ne 5, 3) := by decide +kernel
theorem dX10_stand_7 : decode cX10_stand 7 = .ok (.iconst (-1), 1) := by decide +kernel
theorem dX10_stand_8 : decode cX10_stand 8 = .ok (.ireturn, 1) := by decide +kernel
theorem dX10_stand_9 : decode cX10_stand 9 = .ok (.aload_n 0, 1) := by decide +kernel
theorem dX10_stand_10 : decode cX10_stand 10 = .ok (.getfield 12, 3) := by decide +kernel
theorem dX10_stand_13 : decode cX10_stand 13 = .ok (.getfield 57, 3) := by decide +kernel
theorem dX10_stand_16 : decode cX10_stand 16 = .ok (.istore_n 2, 1) := by decide +kernel
theorem dX10_stand_17 : decode cX10_stand 17 = .ok (.aload_n 0, 1) := by decide +kernel
theorem dX10_stand_18 : decode cX10_stand 18 = .ok (.getfield 12, 3) := by decide +kernel
theorem dX10_stand_21 : decode cX10_stand 21 = .ok (.iload_n 1, 1) := by decide +kernel
theorem dX10_stand_22 : decode cX10_stand 22 = .ok (.putfield 57, 3) := by decide +kernel
theorem dX10_stand_25 : decode cX10_stand 25 = .ok (.iload_n 2, 1) := by decide +kernel
theorem dX10_stand_26 : decode cX10_stand 26 = .ok (.ireturn, 1) := by decide +kernel
theorem dX10_run_0 : decode cX10_run 0 = .ok (.iload_n 1, 1) := by decide +kernel
theorem dX10_run_1 : decode cX10_run 1 = .ok (.iconst 0, 1) := by decide +kernel
theorem dX10_run_2 : decode cX10_run 2 = .ok (.sipush 2000, 3) := by decide +kernel
theorem dX10_run_5 : decode cX10_run 5 = .ok (.invokestatic 33, 3) := by decide +kernel
theorem dX10_run_8 : decode cX10_run 8 = .ok (.ifCond .ne 6, 3) := by decide +kernel
theorem dX10_run_11 : decode cX10_run 11 = .ok (.bipush (-2), 2) := by decide +kernel
theorem dX10_run_13 : decode cX10_run 13 = .ok (.ireturn, 1) := by decide +kernel
theorem dX10_run_14 : decode cX10_run 14 = .ok (.iconst 0, 1) := by decide +kernel
theorem dX10_run_15 : decode cX10_run 15 = .ok (.istore_n 2, 1) := by decide +kernel
theorem dX10_run_16 : decode cX10_run 16 = .ok (.iload_n 2, 1) := by decide +kernel
theorem dX10_run_17 : decode cX10_run 17 = .ok (.iload_n 1, 1) := by decide +kernel
theorem dX10_run_18 : decode cX10_run 18 = .ok (.if_icmp .ge 47, 3) := by decide +kernel
theorem dX10_run_21 : decode cX10_run 21 = .ok (.aload_n 0, 1) := by decide +kernel
theorem dX10_run_22 : decode cX10_run 22 = .ok (.getfield 12, 3) := by decide +kernel
theorem dX10_run_25 : decode cX10_run 25 = .ok (.getfield 57, 3) := by decide +kernel
theorem dX10_run_28 : decode cX10_run 28 = .ok (.istore_n 3, 1) := by decide +kernel
theorem dX10_run_29 : decode cX10_run 29 = .ok (.aload_n 0, 1) := by decide +kernel
theorem dX10_run_30 : decode cX10_run 30 = .ok (.getfield 12, 3) := by decide +kernel
theorem dX10_run_33 : decode cX10_run 33 = .ok (.invokevirtual 61, 3) := by decide +kernel
theorem dX10_run_36 : decode cX10_run 36 = .ok (.istore 4, 2) := by decide +kernel
theorem dX10_run_38 : decode cX10_run 38 = .ok (.iload 4, 2) := by decide +kernel
theorem dX10_run_40 : decode cX10_run 40 = .ok (.iconst (-1), 1) := by decide +kernel
theorem dX10_run_41 : decode cX10_run 41 = .ok (.if_icmp .ne 5, 3) := by decide +kernel
theorem dX10_run_44 : decode cX10_run 44 = .ok (.iload_n 2, 1) := by decide +kernel
theorem dX10_run_45 : decode cX10_run 45 = .ok (.ireturn, 1) := by decide +kernel
theorem dX10_run_46 : decode cX10_run 46 = .ok (.iload 4, 2) := by decide +kernel
theorem dX10_run_48 : decode cX10_run 48 = .ok (.iconst 2, 1) := by decide +kernel
theorem dX10_run_49 : decode cX10_run 49 = .ok (.if_icmp .eq 10, 3) := by decide +kernel
theorem dX10_run_52 : decode cX10_run 52 = .ok (.aload_n 0, 1) := by decide +kernel
theorem dX10_run_53 : decode cX10_run 53 = .ok (.iload_n 3, 1) := by decide +kernel
theorem dX10_run_54 : decode cX10_run 54 = .ok (.iload 4, 2) := by decide +kernel
theorem dX10_run_56 : decode cX10_run 56 = .ok (.invokevirtual 65, 3) := by decide +kernel
theorem dX10_run_59 : decode cX10_run 59 = .ok (.iinc 2 1, 3) := by decide +kernel
theorem dX10_run_62 : decode cX10_run 62 = .ok (.goto (-46), 3) := by decide +kernel
theorem dX10_run_65 : decode cX10_run 65 = .ok (.iload_n 1, 1) := by decide +kernel
theorem dX10_run_66 : decode cX10_run 66 = .ok (.ireturn, 1) := by decide +kernel
theorem dX10_branch_0 : decode cX10_branch 0 = .ok (.iload_n 1, 1) := by decide +kernel
theorem dX10_branch_1 : decode cX10_branch 1 = .ok (.invokestatic 29, 3) := by decide +kernel
theorem dX10_branch_4 : decode cX10_branch 4 = .ok (.ifCond .ne 5, 3) := by decide +kernel
theorem dX10_branch_7 : decode cX10_branch 7 = .ok (.iconst (-1), 1) := by decide +kernel
theorem dX10_branch_8 : decode cX10_branch 8 = .ok (.ireturn, 1) := by decide +kernel
theorem dX10_branch_9 : decode cX10_branch 9 = .ok (.iload_n 2, 1) := by decide +kernel
theorem dX10_branch_10 : decode cX10_branch 10 = .ok (.invokestatic 69, 3) := by decide +kernel
theorem dX10_branch_13 : decode cX10_branch 13 = .ok (.ifCond .ne 6, 3) := by decide +kernel
theorem dX10_branch_16 : decode cX10_branch 16 = .ok (.bipush (-2), 2) := by decide +kernel
theorem dX10_branch_18 : decode cX10_branch 18 = .ok (.ireturn, 1) := by decide +kernel
theorem dX10_branch_19 : decode cX10_branch 19 = .ok (.aload_n 0, 1) := by decide +kernel
theorem dX10_branch_20 : decode cX10_branch 20 = .ok (.iload_n 1, 1) := by decide +kernel
theorem dX10_branch_21 : decode cX10_branch 21 = .ok (.iload_n 2, 1) := by decide +kernel
theorem dX10_branch_22 : decode cX10_branch 22 = .ok (.invokevirtual 65, 3) := by decide +kernel
theorem dX10_branch_25 : decode cX10_branch 25 = .ok (.aload_n 0, 1) := by decide +kernel
theorem dX10_branch_26 : decode cX10_branch 26 = .ok (.getfield 72, 3) := by decide +kernel
theorem dX10_branch_29 : decode cX10_branch 29 = .ok (.ireturn, 1) := by decide +kernel
theorem dX10_at_0 : decode cX10_at 0 = .ok (.iload_n 1, 1) := by decide +kernel
theorem dX10_at_1 : decode cX10_at 1 = .ok (.iconst 0, 1) := by decide +kernel
theorem dX10_at_2 : decode cX10_at 2 = .ok (.aload_n 0, 1) := by decide +kernel
theorem dX10_at_3 : decode cX10_at 3 = .ok (.getfield 19, 3) := by decide +kernel
theorem dX10_at_6 : decode cX10_at 6 = .ok (.getfield 75, 3) := by decide +kernel
theorem dX10_at_9 : decode cX10_at 9 = .ok (.iconst 1, 1) := by decide +kernel
theorem dX10_at_10 : decode cX10_at 10 = .ok (.isub, 1) := by decide +kernel
theorem dX10_at_11 : decode cX10_at 11 = .ok (.invokestatic 33, 3) := by decide +kernel
theorem dX10_at_14 : decode cX10_at 14 = .ok (.ifCond .ne 5, 3) := by decide +kernel
theorem dX10_at_17 : decode cX10_at 17 = .ok (.iconst (-1), 1) := by decide +kernel
theorem dX10_at_18 : decode cX10_at 18 = .ok (.ireturn, 1) := by decide +kernel
theorem dX10_at_19 : decode cX10_at 19 = .ok (.iload_n 2, 1) := by decide +kernel
theorem dX10_at_20 : decode cX10_at 20 = .ok (.ifCond .ne 12, 3) := by decide +kernel
theorem dX10_at_23 : decode cX10_at 23 = .ok (.aload_n 0, 1) := by decide +kernel
theorem dX10_at_24 : decode cX10_at 24 = .ok (.getfield 19, 3) := by decide +kernel
theorem dX10_at_27 : decode cX10_at 27 = .ok (.iload_n 1, 1) := by decide +kernel
theorem dX10_at_28 : decode cX10_at 28 = .ok (.invokevirtual 78, 3) := by decide +kernel
theorem dX10_at_31 : decode cX10_at 31 = .ok (.ireturn, 1) := by decide +kernel
theorem dX10_at_32 : decode cX10_at 32 = .ok (.iload_n 2, 1) := by decide +kernel
theorem dX10_at_33 : decode cX10_at 33 = .ok (.iconst 1, 1) := by decide +kernel
theorem dX10_at_34 : decode cX10_at 34 = .ok (.if_icmp .ne 12, 3) := by decide +kernel
theorem dX10_at_37 : decode cX10_at 37 = .ok (.aload_n 0, 1) := by decide +kernel
theorem dX10_at_38 : decode cX10_at 38 = .ok (.getfield 19, 3) := by decide +kernel
theorem dX10_at_41 : decode cX10_at 41 = .ok (.iload_n 1, 1) := by decide +kernel
theorem dX10_at_42 : decode cX10_at 42 = .ok (.invokevirtual 82, 3) := by decide +kernel
theorem dX10_at_45 : decode cX10_at 45 = .ok (.ireturn, 1) := by decide +kernel
theorem dX10_at_46 : decode cX10_at 46 = .ok (.bipush (-2), 2) := by decide +kernel
theorem dX10_at_48 : decode cX10_at 48 = .ok (.ireturn, 1) := by decide +kernel
theorem dX10_guesser_0 : decode cX10_guesser 0 = .ok (.iload_n 1, 1) := by decide +kernel
theorem dX10_guesser_1 : decode cX10_guesser 1 = .ok (.bipush 7, 2) := by decide +kernel
theorem dX10_guesser_3 : decode cX10_guesser 3 = .ok (.if_icmp .ne 21, 3) := by decide +kernel
theorem dX10_guesser_6 : decode cX10_guesser 6 = .ok (.aload_n 0, 1) := by decide +kernel
theorem dX10_guesser_7 : decode cX10_guesser 7 = .ok (.iload_n 2, 1) := by decide +kernel
theorem dX10_guesser_8 : decode cX10_guesser 8 = .ok (.invokevirtual 85, 3) := by decide +kernel
theorem dX10_guesser_11 : decode cX10_guesser 11 = .ok (.ifCond .eq 11, 3) := by decide +kernel
theorem dX10_guesser_14 : decode cX10_guesser 14 = .ok (.aload_n 0, 1) := by decide +kernel
theorem dX10_guesser_15 : decode cX10_guesser 15 = .ok (.iload_n 3, 1) := by decide +kernel
theorem dX10_guesser_16 : decode cX10_guesser 16 = .ok (.invokevirtual 85, 3) := by decide +kernel
theorem dX10_guesser_19 : decode cX10_guesser 19 = .ok (.ifCond .ne 5, 3) := by decide +kernel
theorem dX10_guesser_22 : decode cX10_guesser 22 = .ok (.iconst (-1), 1) := by decide +kernel
theorem dX10_guesser_23 : decode cX10_guesser 23 = .ok (.ireturn, 1) := by decide +kernel
theorem dX10_guesser_24 : decode cX10_guesser 24 = .ok (.iload_n 1, 1) := by decide +kernel
theorem dX10_guesser_25 : decode cX10_guesser 25 = .ok (.iload_n 2, 1) := by decide +kernel
theorem dX10_guesser_26 : decode cX10_guesser 26 = .ok (.iload_n 3, 1) := by decide +kernel
theorem dX10_guesser_27 : decode cX10_guesser 27 = .ok (.iload 4, 2) := by decide +kernel
theorem dX10_guesser_29 : decode cX10_guesser 29 = .ok (.invokestatic 88, 3) := by decide +kernel
theorem dX10_guesser_32 : decode cX10_guesser 32 = .ok (.ifCond .ne 6, 3) := by decide +kernel
theorem dX10_guesser_35 : decode cX10_guesser 35 = .ok (.bipush (-2), 2) := by decide +kernel
theorem dX10_guesser_37 : decode cX10_guesser 37 = .ok (.ireturn, 1) := by decide +kernel
theorem dX10_guesser_38 : decode cX10_guesser 38 = .ok (.aload_n 0, 1) := by decide +kernel
theorem dX10_guesser_39 : decode cX10_guesser 39 = .ok (.getfield 92, 3) := by decide +kernel
theorem dX10_guesser_42 : decode cX10_guesser 42 = .ok (.bipush 8, 2) := by decide +kernel
theorem dX10_guesser_44 : decode cX10_guesser 44 = .ok (.if_icmp .lt 6, 3) := by decide +kernel
theorem dX10_guesser_47 : decode cX10_guesser 47 = .ok (.bipush (-4), 2) := by decide +kernel
theorem dX10_guesser_49 : decode cX10_guesser 49 = .ok (.ireturn, 1) := by decide +kernel
theorem dX10_guesser_50 : decode cX10_guesser 50 = .ok (.aload_n 0, 1) := by decide +kernel
theorem dX10_guesser_51 : decode cX10_guesser 51 = .ok (.getfield 25, 3) := by decide +kernel
theorem dX10_guesser_54 : decode cX10_guesser 54 = .ok (.aload_n 0, 1) := by decide +kernel
theorem dX10_guesser_55 : decode cX10_guesser 55 = .ok (.getfield 92, 3) := by decide +kernel
theorem dX10_guesser_58 : decode cX10_guesser 58 = .ok (.aload_n 0, 1) := by decide +kernel
theorem dX10_guesser_59 : decode cX10_guesser 59 = .ok (.iload_n 1, 1) := by decide +kernel
theorem dX10_guesser_60 : decode cX10_guesser 60 = .ok (.iload_n 2, 1) := by decide +kernel
theorem dX10_guesser_61 : decode cX10_guesser 61 = .ok (.iload_n 3, 1) := by decide +kernel
theorem dX10_guesser_62 : decode cX10_guesser 62 = .ok (.iload 4, 2) := by decide +kernel
theorem dX10_guesser_64 : decode cX10_guesser 64 = .ok (.invokevirtual 95, 3) := by decide +kernel
theorem dX10_guesser_67 : decode cX10_guesser 67 = .ok (.aastore, 1) := by decide +kernel
theorem dX10_guesser_68 : decode cX10_guesser 68 = .ok (.aload_n 0, 1) := by decide +kernel
theorem dX10_guesser_69 : decode cX10_guesser 69 = .ok (.dup, 1) := by decide +kernel
theorem dX10_guesser_70 : decode cX10_guesser 70 = .ok (.getfield 92, 3) := by decide +kernel
theorem dX10_guesser_73 : decode cX10_guesser 73 = .ok (.iconst 1, 1) := by decide +kernel
theorem dX10_guesser_74 : decode cX10_guesser 74 = .ok (.iadd, 1) := by decide +kernel
theorem dX10_guesser_75 : decode cX10_guesser 75 = .ok (.putfield 92, 3) := by decide +kernel
theorem dX10_guesser_78 : decode cX10_guesser 78 = .ok (.aload_n 0, 1) := by decide +kernel
theorem dX10_guesser_79 : decode cX10_guesser 79 = .ok (.getfield 92, 3) := by decide +kernel
theorem dX10_guesser_82 : decode cX10_guesser 82 = .ok (.iconst 1, 1) := by decide +kernel
theorem dX10_guesser_83 : decode cX10_guesser 83 = .ok (.isub, 1) := by decide +kernel
theorem dX10_guesser_84 : decode cX10_guesser 84 = .ok (.ireturn, 1) := by decide +kernel
theorem dX10_guess_0 : decode cX10_guess 0 = .ok (.aload_n 0, 1) := by decide +kernel
theorem dX10_guess_1 : decode cX10_guess 1 = .ok (.iload_n 1, 1) := by decide +kernel
theorem dX10_guess_2 : decode cX10_guess 2 = .ok (.invokevirtual 85, 3) := by decide +kernel
theorem dX10_guess_5 : decode cX10_guess 5 = .ok (.ifCond .eq 10, 3) := by decide +kernel
theorem dX10_guess_8 : decode cX10_guess 8 = .ok (.iload_n 2, 1) := by decide +kernel
theorem dX10_guess_9 : decode cX10_guess 9 = .ok (.invokestatic 29, 3) := by decide +kernel
theorem dX10_guess_12 : decode cX10_guess 12 = .ok (.ifCond .ne 5, 3) := by decide +kernel
theorem dX10_guess_15 : decode cX10_guess 15 = .ok (.iconst (-1), 1) := by decide +kernel
theorem dX10_guess_16 : decode cX10_guess 16 = .ok (.ireturn, 1) := by decide +kernel
theorem dX10_guess_17 : decode cX10_guess 17 = .ok (.iconst 0, 1) := by decide +kernel
theorem dX10_guess_18 : decode cX10_guess 18 = .ok (.istore_n 3, 1) := by decide +kernel
theorem dX10_guess_19 : decode cX10_guess 19 = .ok (.iload_n 3, 1) := by decide +kernel
theorem dX10_guess_20 : decode cX10_guess 20 = .ok (.iload_n 1, 1) := by decide +kernel
theorem dX10_guess_21 : decode cX10_guess 21 = .ok (.if_icmp .gt 19, 3) := by decide +kernel
theorem dX10_guess_24 : decode cX10_guess 24 = .ok (.aload_n 0, 1) := by decide +kernel
theorem dX10_guess_25 : decode cX10_guess 25 = .ok (.getfield 25, 3) := by decide +kernel
theorem dX10_guess_28 : decode cX10_guess 28 = .ok (.iload_n 3, 1) := by decide +kernel
theorem dX10_guess_29 : decode cX10_guess 29 = .ok (.aaload, 1) := by decide +kernel
theorem dX10_guess_30 : decode cX10_guess 30 = .ok (.iload_n 2, 1) := by decide +kernel
theorem dX10_guess_31 : decode cX10_guess 31 = .ok (.invokevirtual 99, 3) := by decide +kernel
theorem dX10_guess_34 : decode cX10_guess 34 = .ok (.iinc 3 1, 3) := by decide +kernel
theorem dX10_guess_37 : decode cX10_guess 37 = .ok (.goto (-18), 3) := by decide +kernel
theorem dX10_guess_40 : decode cX10_guess 40 = .ok (.aload_n 0, 1) := by decide +kernel
theorem dX10_guess_41 : decode cX10_guess 41 = .ok (.getfield 25, 3) := by decide +kernel
theorem dX10_guess_44 : decode cX10_guess 44 = .ok (.iload_n 1, 1) := by decide +kernel
theorem dX10_guess_45 : decode cX10_guess 45 = .ok (.aaload, 1) := by decide +kernel
theorem dX10_guess_46 : decode cX10_guess 46 = .ok (.getfield 103, 3) := by decide +kernel
theorem dX10_guess_49 : decode cX10_guess 49 = .ok (.ireturn, 1) := by decide +kernel
theorem dX10_hint_0 : decode cX10_hint 0 = .ok (.aload_n 0, 1) := by decide +kernel
theorem dX10_hint_1 : decode cX10_hint 1 = .ok (.iload_n 1, 1) := by decide +kernel
theorem dX10_hint_2 : decode cX10_hint 2 = .ok (.invokevirtual 85, 3) := by decide +kernel
theorem dX10_hint_5 : decode cX10_hint 5 = .ok (.ifCond .eq 10, 3) := by decide +kernel
theorem dX10_hint_8 : decode cX10_hint 8 = .ok (.iload_n 2, 1) := by decide +kernel
theorem dX10_hint_9 : decode cX10_hint 9 = .ok (.invokestatic 29, 3) := by decide +kernel
theorem dX10_hint_12 : decode cX10_hint 12 = .ok (.ifCond .ne 5, 3) := by decide +kernel
theorem dX10_hint_15 : decode cX10_hint 15 = .ok (.iconst (-1), 1) := by decide +kernel
theorem dX10_hint_16 : decode cX10_hint 16 = .ok (.ireturn, 1) := by decide +kernel
theorem dX10_hint_17 : decode cX10_hint 17 = .ok (.iload_n 3, 1) := by decide +kernel
theorem dX10_hint_18 : decode cX10_hint 18 = .ok (.iconst (-1), 1) := by decide +kernel
theorem dX10_hint_19 : decode cX10_hint 19 = .ok (.if_icmp .eq 13, 3) := by decide +kernel
theorem dX10_hint_22 : decode cX10_hint 22 = .ok (.iload_n 3, 1) := by decide +kernel
theorem dX10_hint_23 : decode cX10_hint 23 = .ok (.invokestatic 69, 3) := by decide +kernel
theorem dX10_hint_26 : decode cX10_hint 26 = .ok (.ifCond .ne 6, 3) := by decide +kernel
theorem dX10_hint_29 : decode cX10_hint 29 = .ok (.bipush (-2), 2) := by decide +kernel
theorem dX10_hint_31 : decode cX10_hint 31 = .ok (.ireturn, 1) := by decide +kernel
theorem dX10_hint_32 : decode cX10_hint 32 = .ok (.aload_n 0, 1) := by decide +kernel
theorem dX10_hint_33 : decode cX10_hint 33 = .ok (.getfield 25, 3) := by decide +kernel
theorem dX10_hint_36 : decode cX10_hint 36 = .ok (.iload_n 1, 1) := by decide +kernel
theorem dX10_hint_37 : decode cX10_hint 37 = .ok (.aaload, 1) := by decide +kernel
theorem dX10_hint_38 : decode cX10_hint 38 = .ok (.getfield 106, 3) := by decide +kernel
theorem dX10_hint_41 : decode cX10_hint 41 = .ok (.astore 4, 2) := by decide +kernel
theorem dX10_hint_43 : decode cX10_hint 43 = .ok (.aload 4, 2) := by decide +kernel
theorem dX10_hint_45 : decode cX10_hint 45 = .ok (.iload_n 2, 1) := by decide +kernel
theorem dX10_hint_46 : decode cX10_hint 46 = .ok (.iaload, 1) := by decide +kernel
theorem dX10_hint_47 : decode cX10_hint 47 = .ok (.istore 5, 2) := by decide +kernel
theorem dX10_hint_49 : decode cX10_hint 49 = .ok (.aload 4, 2) := by decide +kernel
theorem dX10_hint_51 : decode cX10_hint 51 = .ok (.iload_n 2, 1) := by decide +kernel
theorem dX10_hint_52 : decode cX10_hint 52 = .ok (.iload_n 3, 1) := by decide +kernel
theorem dX10_hint_53 : decode cX10_hint 53 = .ok (.iastore, 1) := by decide +kernel
theorem dX10_hint_54 : decode cX10_hint 54 = .ok (.iload 5, 2) := by decide +kernel
theorem dX10_hint_56 : decode cX10_hint 56 = .ok (.ireturn, 1) := by decide +kernel
theorem dX10_profile_0 : decode cX10_profile 0 = .ok (.aload_n 0, 1) := by decide +kernel
theorem dX10_profile_1 : decode cX10_profile 1 = .ok (.iload_n 1, 1) := by decide +kernel
theorem dX10_profile_2 : decode cX10_profile 2 = .ok (.invokevirtual 85, 3) := by decide +kernel
theorem dX10_profile_5 : decode cX10_profile 5 = .ok (.ifCond .ne 5, 3) := by decide +kernel
theorem dX10_profile_8 : decode cX10_profile 8 = .ok (.iconst (-1), 1) := by decide +kernel
theorem dX10_profile_9 : decode cX10_profile 9 = .ok (.ireturn, 1) := by decide +kernel
theorem dX10_profile_10 : decode cX10_profile 10 = .ok (.aload_n 0, 1) := by decide +kernel
theorem dX10_profile_11 : decode cX10_profile 11 = .ok (.getfield 25, 3) := by decide +kernel
theorem dX10_profile_14 : decode cX10_profile 14 = .ok (.iload_n 1, 1) := by decide +kernel
theorem dX10_profile_15 : decode cX10_profile 15 = .ok (.aaload, 1) := by decide +kernel
theorem dX10_profile_16 : decode cX10_profile 16 = .ok (.getfield 106, 3) := by decide +kernel
theorem dX10_profile_19 : decode cX10_profile 19 = .ok (.astore_n 2, 1) := by decide +kernel
theorem dX10_profile_20 : decode cX10_profile 20 = .ok (.iconst 0, 1) := by decide +kernel
theorem dX10_profile_21 : decode cX10_profile 21 = .ok (.istore_n 3, 1) := by decide +kernel
theorem dX10_profile_22 : decode cX10_profile 22 = .ok (.iconst 0, 1) := by decide +kernel
theorem dX10_profile_23 : decode cX10_profile 23 = .ok (.istore 4, 2) := by decide +kernel
theorem dX10_profile_25 : decode cX10_profile 25 = .ok (.iload 4, 2) := by decide +kernel
theorem dX10_profile_27 : decode cX10_profile 27 = .ok (.bipush 64, 2) := by decide +kernel
theorem dX10_profile_29 : decode cX10_profile 29 = .ok (.if_icmp .ge 33, 3) := by decide +kernel
theorem dX10_profile_32 : decode cX10_profile 32 = .ok (.aload_n 2, 1) := by decide +kernel
theorem dX10_profile_33 : decode cX10_profile 33 = .ok (.iload 4, 2) := by decide +kernel
theorem dX10_profile_35 : decode cX10_profile 35 = .ok (.aload_n 0, 1) := by decide +kernel
theorem dX10_profile_36 : decode cX10_profile 36 = .ok (.getfield 19, 3) := by decide +kernel
theorem dX10_profile_39 : decode cX10_profile 39 = .ok (.iload 4, 2) := by decide +kernel
theorem dX10_profile_41 : decode cX10_profile 41 = .ok (.invokevirtual 109, 3) := by decide +kernel
theorem dX10_profile_44 : decode cX10_profile 44 = .ok (.iastore, 1) := by decide +kernel
theorem dX10_profile_45 : decode cX10_profile 45 = .ok (.aload_n 2, 1) := by decide +kernel
theorem dX10_profile_46 : decode cX10_profile 46 = .ok (.iload 4, 2) := by decide +kernel
theorem dX10_profile_48 : decode cX10_profile 48 = .ok (.iaload, 1) := by decide +kernel
theorem dX10_profile_49 : decode cX10_profile 49 = .ok (.iconst (-1), 1) := by decide +kernel
theorem dX10_profile_50 : decode cX10_profile 50 = .ok (.if_icmp .eq 6, 3) := by decide +kernel
theorem dX10_profile_53 : decode cX10_profile 53 = .ok (.iinc 3 1, 3) := by decide +kernel
theorem dX10_profile_56 : decode cX10_profile 56 = .ok (.iinc 4 1, 3) := by decide +kernel
theorem dX10_profile_59 : decode cX10_profile 59 = .ok (.goto (-34), 3) := by decide +kernel
theorem dX10_profile_62 : decode cX10_profile 62 = .ok (.iload_n 3, 1) := by decide +kernel
theorem dX10_profile_63 : decode cX10_profile 63 = .ok (.ireturn, 1) := by decide +kernel
theorem dX10_misses_0 : decode cX10_misses 0 = .ok (.aload_n 0, 1) := by decide +kernel
theorem dX10_misses_1 : decode cX10_misses 1 = .ok (.iload_n 1, 1) := by decide +kernel
theorem dX10_misses_2 : decode cX10_misses 2 = .ok (.invokevirtual 85, 3) := by decide +kernel
theorem dX10_misses_5 : decode cX10_misses 5 = .ok (.ifCond .ne 5, 3) := by decide +kernel
theorem dX10_misses_8 : decode cX10_misses 8 = .ok (.iconst (-1), 1) := by decide +kernel
theorem dX10_misses_9 : decode cX10_misses 9 = .ok (.ireturn, 1) := by decide +kernel
theorem dX10_misses_10 : decode cX10_misses 10 = .ok (.iload_n 2, 1) := by decide +kernel
theorem dX10_misses_11 : decode cX10_misses 11 = .ok (.iconst (-1), 1) := by decide +kernel
theorem dX10_misses_12 : decode cX10_misses 12 = .ok (.if_icmp .ne 16, 3) := by decide +kernel
theorem dX10_misses_15 : decode cX10_misses 15 = .ok (.aload_n 0, 1) := by decide +kernel
theorem dX10_misses_16 : decode cX10_misses 16 = .ok (.getfield 25, 3) := by decide +kernel
theorem dX10_misses_19 : decode cX10_misses 19 = .ok (.iload_n 1, 1) := by decide +kernel
theorem dX10_misses_20 : decode cX10_misses 20 = .ok (.aaload, 1) := by decide +kernel
theorem dX10_misses_21 : decode cX10_misses 21 = .ok (.getfield 112, 3) := by decide +kernel
theorem dX10_misses_24 : decode cX10_misses 24 = .ok (.getfield 116, 3) := by decide +kernel
theorem dX10_misses_27 : decode cX10_misses 27 = .ok (.ireturn, 1) := by decide +kernel
theorem dX10_misses_28 : decode cX10_misses 28 = .ok (.iload_n 2, 1) := by decide +kernel
theorem dX10_misses_29 : decode cX10_misses 29 = .ok (.invokestatic 29, 3) := by decide +kernel
theorem dX10_misses_32 : decode cX10_misses 32 = .ok (.ifCond .eq 20, 3) := by decide +kernel
theorem dX10_misses_35 : decode cX10_misses 35 = .ok (.aload_n 0, 1) := by decide +kernel
theorem dX10_misses_36 : decode cX10_misses 36 = .ok (.getfield 25, 3) := by decide +kernel
theorem dX10_misses_39 : decode cX10_misses 39 = .ok (.iload_n 1, 1) := by decide +kernel
theorem dX10_misses_40 : decode cX10_misses 40 = .ok (.aaload, 1) := by decide +kernel
theorem dX10_misses_41 : decode cX10_misses 41 = .ok (.getfield 112, 3) := by decide +kernel
theorem dX10_misses_44 : decode cX10_misses 44 = .ok (.getfield 121, 3) := by decide +kernel
theorem dX10_misses_47 : decode cX10_misses 47 = .ok (.iload_n 2, 1) := by decide +kernel
theorem dX10_misses_48 : decode cX10_misses 48 = .ok (.iaload, 1) := by decide +kernel
theorem dX10_misses_49 : decode cX10_misses 49 = .ok (.goto 4, 3) := by decide +kernel
theorem dX10_misses_52 : decode cX10_misses 52 = .ok (.iconst (-1), 1) := by decide +kernel
theorem dX10_misses_53 : decode cX10_misses 53 = .ok (.ireturn, 1) := by decide +kernel
theorem dX10_asked_0 : decode cX10_asked 0 = .ok (.aload_n 0, 1) := by decide +kernel
theorem dX10_asked_1 : decode cX10_asked 1 = .ok (.iload_n 1, 1) := by decide +kernel
theorem dX10_asked_2 : decode cX10_asked 2 = .ok (.invokevirtual 85, 3) := by decide +kernel
theorem dX10_asked_5 : decode cX10_asked 5 = .ok (.ifCond .eq 18, 3) := by decide +kernel
theorem dX10_asked_8 : decode cX10_asked 8 = .ok (.aload_n 0, 1) := by decide +kernel
theorem dX10_asked_9 : decode cX10_asked 9 = .ok (.getfield 25, 3) := by decide +kernel
theorem dX10_asked_12 : decode cX10_asked 12 = .ok (.iload_n 1, 1) := by decide +kernel
theorem dX10_asked_13 : decode cX10_asked 13 = .ok (.aaload, 1) := by decide +kernel
theorem dX10_asked_14 : decode cX10_asked 14 = .ok (.getfield 112, 3) := by decide +kernel
theorem dX10_asked_17 : decode cX10_asked 17 = .ok (.getfield 124, 3) := by decide +kernel
theorem dX10_asked_20 : decode cX10_asked 20 = .ok (.goto 4, 3) := by decide +kernel
theorem dX10_asked_23 : decode cX10_asked 23 = .ok (.iconst (-1), 1) := by decide +kernel
theorem dX10_asked_24 : decode cX10_asked 24 = .ok (.ireturn, 1) := by decide +kernel
theorem dX10_clashes_0 : decode cX10_clashes 0 = .ok (.aload_n 0, 1) := by decide +kernel
theorem dX10_clashes_1 : decode cX10_clashes 1 = .ok (.iload_n 1, 1) := by decide +kernel
theorem dX10_clashes_2 : decode cX10_clashes 2 = .ok (.invokevirtual 85, 3) := by decide +kernel
theorem dX10_clashes_5 : decode cX10_clashes 5 = .ok (.ifCond .ne 5, 3) := by decide +kernel
theorem dX10_clashes_8 : decode cX10_clashes 8 = .ok (.iconst (-1), 1) := by decide +kernel
theorem dX10_clashes_9 : decode cX10_clashes 9 = .ok (.ireturn, 1) := by decide +kernel
theorem dX10_clashes_10 : decode cX10_clashes 10 = .ok (.aload_n 0, 1) := by decide +kernel
theorem dX10_clashes_11 : decode cX10_clashes 11 = .ok (.getfield 25, 3) := by decide +kernel
theorem dX10_clashes_14 : decode cX10_clashes 14 = .ok (.iload_n 1, 1) := by decide +kernel
theorem dX10_clashes_15 : decode cX10_clashes 15 = .ok (.aaload, 1) := by decide +kernel
theorem dX10_clashes_16 : decode cX10_clashes 16 = .ok (.invokevirtual 127, 3) := by decide +kernel
theorem dX10_clashes_19 : decode cX10_clashes 19 = .ok (.ifCond .eq 18, 3) := by decide +kernel
theorem dX10_clashes_22 : decode cX10_clashes 22 = .ok (.aload_n 0, 1) := by decide +kernel
theorem dX10_clashes_23 : decode cX10_clashes 23 = .ok (.getfield 25, 3) := by decide +kernel
theorem dX10_clashes_26 : decode cX10_clashes 26 = .ok (.iload_n 1, 1) := by decide +kernel
theorem dX10_clashes_27 : decode cX10_clashes 27 = .ok (.aaload, 1) := by decide +kernel
theorem dX10_clashes_28 : decode cX10_clashes 28 = .ok (.getfield 112, 3) := by decide +kernel
theorem dX10_clashes_31 : decode cX10_clashes 31 = .ok (.getfield 131, 3) := by decide +kernel
theorem dX10_clashes_34 : decode cX10_clashes 34 = .ok (.goto 5, 3) := by decide +kernel
theorem dX10_clashes_37 : decode cX10_clashes 37 = .ok (.bipush (-5), 2) := by decide +kernel
theorem dX10_clashes_39 : decode cX10_clashes 39 = .ok (.ireturn, 1) := by decide +kernel
theorem dX10_pair_0 : decode cX10_pair 0 = .ok (.aload_n 0, 1) := by decide +kernel
theorem dX10_pair_1 : decode cX10_pair 1 = .ok (.iload_n 1, 1) := by decide +kernel
theorem dX10_pair_2 : decode cX10_pair 2 = .ok (.invokevirtual 85, 3) := by decide +kernel
theorem dX10_pair_5 : decode cX10_pair 5 = .ok (.ifCond .ne 5, 3) := by decide +kernel
theorem dX10_pair_8 : decode cX10_pair 8 = .ok (.iconst (-1), 1) := by decide +kernel
theorem dX10_pair_9 : decode cX10_pair 9 = .ok (.ireturn, 1) := by decide +kernel
theorem dX10_pair_10 : decode cX10_pair 10 = .ok (.aload_n 0, 1) := by decide +kernel
theorem dX10_pair_11 : decode cX10_pair 11 = .ok (.getfield 25, 3) := by decide +kernel
theorem dX10_pair_14 : decode cX10_pair 14 = .ok (.iload_n 1, 1) := by decide +kernel
theorem dX10_pair_15 : decode cX10_pair 15 = .ok (.aaload, 1) := by decide +kernel
theorem dX10_pair_16 : decode cX10_pair 16 = .ok (.invokevirtual 127, 3) := by decide +kernel
theorem dX10_pair_19 : decode cX10_pair 19 = .ok (.ifCond .ne 6, 3) := by decide +kernel
theorem dX10_pair_22 : decode cX10_pair 22 = .ok (.bipush (-5), 2) := by decide +kernel
theorem dX10_pair_24 : decode cX10_pair 24 = .ok (.ireturn, 1) := by decide +kernel
theorem dX10_pair_25 : decode cX10_pair 25 = .ok (.aload_n 0, 1) := by decide +kernel
theorem dX10_pair_26 : decode cX10_pair 26 = .ok (.getfield 25, 3) := by decide +kernel
theorem dX10_pair_29 : decode cX10_pair 29 = .ok (.iload_n 1, 1) := by decide +kernel
theorem dX10_pair_30 : decode cX10_pair 30 = .ok (.aaload, 1) := by decide +kernel
theorem dX10_pair_31 : decode cX10_pair 31 = .ok (.getfield 112, 3) := by decide +kernel
theorem dX10_pair_34 : decode cX10_pair 34 = .ok (.astore_n 3, 1) := by decide +kernel
theorem dX10_pair_35 : decode cX10_pair 35 = .ok (.iload_n 2, 1) := by decide +kernel
theorem dX10_pair_36 : decode cX10_pair 36 = .ok (.iconst 0, 1) := by decide +kernel
theorem dX10_pair_37 : decode cX10_pair 37 = .ok (.aload_n 3, 1) := by decide +kernel
theorem dX10_pair_38 : decode cX10_pair 38 = .ok (.getfield 134, 3) := by decide +kernel
theorem dX10_pair_41 : decode cX10_pair 41 = .ok (.iconst 1, 1) := by decide +kernel
theorem dX10_pair_42 : decode cX10_pair 42 = .ok (.isub, 1) := by decide +kernel
theorem dX10_pair_43 : decode cX10_pair 43 = .ok (.invokestatic 33, 3) := by decide +kernel
theorem dX10_pair_46 : decode cX10_pair 46 = .ok (.ifCond .eq 12, 3) := by decide +kernel
theorem dX10_pair_49 : decode cX10_pair 49 = .ok (.aload_n 3, 1) := by decide +kernel
theorem dX10_pair_50 : decode cX10_pair 50 = .ok (.getfield 137, 3) := by decide +kernel
theorem dX10_pair_53 : decode cX10_pair 53 = .ok (.iload_n 2, 1) := by decide +kernel
theorem dX10_pair_54 : decode cX10_pair 54 = .ok (.iaload, 1) := by decide +kernel
theorem dX10_pair_55 : decode cX10_pair 55 = .ok (.goto 5, 3) := by decide +kernel
theorem dX10_pair_58 : decode cX10_pair 58 = .ok (.bipush (-6), 2) := by decide +kernel
theorem dX10_pair_60 : decode cX10_pair 60 = .ok (.ireturn, 1) := by decide +kernel
theorem dX10_inside_0 : decode cX10_inside 0 = .ok (.aload_n 0, 1) := by decide +kernel
theorem dX10_inside_1 : decode cX10_inside 1 = .ok (.iload_n 1, 1) := by decide +kernel
theorem dX10_inside_2 : decode cX10_inside 2 = .ok (.invokevirtual 85, 3) := by decide +kernel
theorem dX10_inside_5 : decode cX10_inside 5 = .ok (.ifCond .eq 17, 3) := by decide +kernel
theorem dX10_inside_8 : decode cX10_inside 8 = .ok (.aload_n 0, 1) := by decide +kernel
theorem dX10_inside_9 : decode cX10_inside 9 = .ok (.getfield 25, 3) := by decide +kernel
theorem dX10_inside_12 : decode cX10_inside 12 = .ok (.iload_n 1, 1) := by decide +kernel
theorem dX10_inside_13 : decode cX10_inside 13 = .ok (.aaload, 1) := by decide +kernel
theorem dX10_inside_14 : decode cX10_inside 14 = .ok (.iload_n 2, 1) := by decide +kernel
theorem dX10_inside_15 : decode cX10_inside 15 = .ok (.iload_n 3, 1) := by decide +kernel
theorem dX10_inside_16 : decode cX10_inside 16 = .ok (.invokevirtual 140, 3) := by decide +kernel
theorem dX10_inside_19 : decode cX10_inside 19 = .ok (.goto 6, 3) := by decide +kernel
theorem dX10_inside_22 : decode cX10_inside 22 = .ok (.sipush (-1000), 3) := by decide +kernel
theorem dX10_inside_25 : decode cX10_inside 25 = .ok (.ireturn, 1) := by decide +kernel
theorem dX10_fresh_0 : decode cX10_fresh 0 = .ok (.aload_n 0, 1) := by decide +kernel
theorem dX10_fresh_1 : decode cX10_fresh 1 = .ok (.iload_n 1, 1) := by decide +kernel
theorem dX10_fresh_2 : decode cX10_fresh 2 = .ok (.invokevirtual 85, 3) := by decide +kernel
theorem dX10_fresh_5 : decode cX10_fresh 5 = .ok (.ifCond .ne 5, 3) := by decide +kernel
theorem dX10_fresh_8 : decode cX10_fresh 8 = .ok (.iconst (-1), 1) := by decide +kernel
theorem dX10_fresh_9 : decode cX10_fresh 9 = .ok (.ireturn, 1) := by decide +kernel
theorem dX10_fresh_10 : decode cX10_fresh 10 = .ok (.aload_n 0, 1) := by decide +kernel
theorem dX10_fresh_11 : decode cX10_fresh 11 = .ok (.getfield 25, 3) := by decide +kernel
theorem dX10_fresh_14 : decode cX10_fresh 14 = .ok (.iload_n 1, 1) := by decide +kernel
theorem dX10_fresh_15 : decode cX10_fresh 15 = .ok (.aaload, 1) := by decide +kernel
theorem dX10_fresh_16 : decode cX10_fresh 16 = .ok (.getfield 112, 3) := by decide +kernel
theorem dX10_fresh_19 : decode cX10_fresh 19 = .ok (.getfield 124, 3) := by decide +kernel
theorem dX10_fresh_22 : decode cX10_fresh 22 = .ok (.istore_n 2, 1) := by decide +kernel
theorem dX10_fresh_23 : decode cX10_fresh 23 = .ok (.aload_n 0, 1) := by decide +kernel
theorem dX10_fresh_24 : decode cX10_fresh 24 = .ok (.getfield 25, 3) := by decide +kernel
theorem dX10_fresh_27 : decode cX10_fresh 27 = .ok (.iload_n 1, 1) := by decide +kernel
theorem dX10_fresh_28 : decode cX10_fresh 28 = .ok (.aaload, 1) := by decide +kernel
theorem dX10_fresh_29 : decode cX10_fresh 29 = .ok (.invokevirtual 144, 3) := by decide +kernel
theorem dX10_fresh_32 : decode cX10_fresh 32 = .ok (.iload_n 2, 1) := by decide +kernel
theorem dX10_fresh_33 : decode cX10_fresh 33 = .ok (.ireturn, 1) := by decide +kernel
theorem dX10_again_0 : decode cX10_again 0 = .ok (.aload_n 0, 1) := by decide +kernel
theorem dX10_again_1 : decode cX10_again 1 = .ok (.iload_n 1, 1) := by decide +kernel
theorem dX10_again_2 : decode cX10_again 2 = .ok (.invokevirtual 85, 3) := by decide +kernel
theorem dX10_again_5 : decode cX10_again 5 = .ok (.ifCond .ne 5, 3) := by decide +kernel
theorem dX10_again_8 : decode cX10_again 8 = .ok (.iconst (-1), 1) := by decide +kernel
theorem dX10_again_9 : decode cX10_again 9 = .ok (.ireturn, 1) := by decide +kernel
theorem dX10_again_10 : decode cX10_again 10 = .ok (.aload_n 0, 1) := by decide +kernel
theorem dX10_again_11 : decode cX10_again 11 = .ok (.iload_n 1, 1) := by decide +kernel
theorem dX10_again_12 : decode cX10_again 12 = .ok (.invokevirtual 147, 3) := by decide +kernel
theorem dX10_again_15 : decode cX10_again 15 = .ok (.istore_n 2, 1) := by decide +kernel
theorem dX10_again_16 : decode cX10_again 16 = .ok (.iconst 0, 1) := by decide +kernel
theorem dX10_again_17 : decode cX10_again 17 = .ok (.istore_n 3, 1) := by decide +kernel
theorem dX10_again_18 : decode cX10_again 18 = .ok (.iload_n 3, 1) := by decide +kernel
theorem dX10_again_19 : decode cX10_again 19 = .ok (.iload_n 1, 1) := by decide +kernel
theorem dX10_again_20 : decode cX10_again 20 = .ok (.if_icmp .gt 26, 3) := by decide +kernel
theorem dX10_again_23 : decode cX10_again 23 = .ok (.iload_n 2, 1) := by decide +kernel
theorem dX10_again_24 : decode cX10_again 24 = .ok (.iload_n 3, 1) := by decide +kernel
theorem dX10_again_25 : decode cX10_again 25 = .ok (.invokestatic 150, 3) := by decide +kernel
theorem dX10_again_28 : decode cX10_again 28 = .ok (.ifCond .eq 12, 3) := by decide +kernel
theorem dX10_again_31 : decode cX10_again 31 = .ok (.aload_n 0, 1) := by decide +kernel
theorem dX10_again_32 : decode cX10_again 32 = .ok (.getfield 25, 3) := by decide +kernel
theorem dX10_again_35 : decode cX10_again 35 = .ok (.iload_n 3, 1) := by decide +kernel
theorem dX10_again_36 : decode cX10_again 36 = .ok (.aaload, 1) := by decide +kernel
theorem dX10_again_37 : decode cX10_again 37 = .ok (.invokevirtual 144, 3) := by decide +kernel
theorem dX10_again_40 : decode cX10_again 40 = .ok (.iinc 3 1, 3) := by decide +kernel
theorem dX10_again_43 : decode cX10_again 43 = .ok (.goto (-25), 3) := by decide +kernel
theorem dX10_again_46 : decode cX10_again 46 = .ok (.iconst 0, 1) := by decide +kernel
theorem dX10_again_47 : decode cX10_again 47 = .ok (.istore_n 3, 1) := by decide +kernel
theorem dX10_again_48 : decode cX10_again 48 = .ok (.iload_n 3, 1) := by decide +kernel
theorem dX10_again_49 : decode cX10_again 49 = .ok (.aload_n 0, 1) := by decide +kernel
theorem dX10_again_50 : decode cX10_again 50 = .ok (.getfield 19, 3) := by decide +kernel
theorem dX10_again_53 : decode cX10_again 53 = .ok (.getfield 75, 3) := by decide +kernel
theorem dX10_again_56 : decode cX10_again 56 = .ok (.if_icmp .ge 67, 3) := by decide +kernel
theorem dX10_again_59 : decode cX10_again 59 = .ok (.aload_n 0, 1) := by decide +kernel
theorem dX10_again_60 : decode cX10_again 60 = .ok (.getfield 19, 3) := by decide +kernel
theorem dX10_again_63 : decode cX10_again 63 = .ok (.iload_n 3, 1) := by decide +kernel
theorem dX10_again_64 : decode cX10_again 64 = .ok (.invokevirtual 78, 3) := by decide +kernel
theorem dX10_again_67 : decode cX10_again 67 = .ok (.istore 4, 2) := by decide +kernel
theorem dX10_again_69 : decode cX10_again 69 = .ok (.aload_n 0, 1) := by decide +kernel
theorem dX10_again_70 : decode cX10_again 70 = .ok (.getfield 19, 3) := by decide +kernel
theorem dX10_again_73 : decode cX10_again 73 = .ok (.iload_n 3, 1) := by decide +kernel
theorem dX10_again_74 : decode cX10_again 74 = .ok (.invokevirtual 82, 3) := by decide +kernel
theorem dX10_again_77 : decode cX10_again 77 = .ok (.istore 5, 2) := by decide +kernel
theorem dX10_again_79 : decode cX10_again 79 = .ok (.iconst 0, 1) := by decide +kernel
theorem dX10_again_80 : decode cX10_again 80 = .ok (.istore 6, 2) := by decide +kernel
theorem dX10_again_82 : decode cX10_again 82 = .ok (.iload 6, 2) := by decide +kernel
theorem dX10_again_84 : decode cX10_again 84 = .ok (.iload_n 1, 1) := by decide +kernel
theorem dX10_again_85 : decode cX10_again 85 = .ok (.if_icmp .gt 32, 3) := by decide +kernel
theorem dX10_again_88 : decode cX10_again 88 = .ok (.iload_n 2, 1) := by decide +kernel
theorem dX10_again_89 : decode cX10_again 89 = .ok (.iload 6, 2) := by decide +kernel
theorem dX10_again_91 : decode cX10_again 91 = .ok (.invokestatic 150, 3) := by decide +kernel
theorem dX10_again_94 : decode cX10_again 94 = .ok (.ifCond .eq 17, 3) := by decide +kernel
theorem dX10_again_97 : decode cX10_again 97 = .ok (.aload_n 0, 1) := by decide +kernel
theorem dX10_again_98 : decode cX10_again 98 = .ok (.getfield 25, 3) := by decide +kernel
theorem dX10_again_101 : decode cX10_again 101 = .ok (.iload 6, 2) := by decide +kernel
theorem dX10_again_103 : decode cX10_again 103 = .ok (.aaload, 1) := by decide +kernel
theorem dX10_again_104 : decode cX10_again 104 = .ok (.iload 4, 2) := by decide +kernel
theorem dX10_again_106 : decode cX10_again 106 = .ok (.iload 5, 2) := by decide +kernel
theorem dX10_again_108 : decode cX10_again 108 = .ok (.invokevirtual 154, 3) := by decide +kernel
theorem dX10_again_111 : decode cX10_again 111 = .ok (.iinc 6 1, 3) := by decide +kernel
theorem dX10_again_114 : decode cX10_again 114 = .ok (.goto (-32), 3) := by decide +kernel
theorem dX10_again_117 : decode cX10_again 117 = .ok (.iinc 3 1, 3) := by decide +kernel
theorem dX10_again_120 : decode cX10_again 120 = .ok (.goto (-72), 3) := by decide +kernel
theorem dX10_again_123 : decode cX10_again 123 = .ok (.aload_n 0, 1) := by decide +kernel
theorem dX10_again_124 : decode cX10_again 124 = .ok (.getfield 25, 3) := by decide +kernel
theorem dX10_again_127 : decode cX10_again 127 = .ok (.iload_n 1, 1) := by decide +kernel
theorem dX10_again_128 : decode cX10_again 128 = .ok (.aaload, 1) := by decide +kernel
theorem dX10_again_129 : decode cX10_again 129 = .ok (.getfield 112, 3) := by decide +kernel
theorem dX10_again_132 : decode cX10_again 132 = .ok (.getfield 116, 3) := by decide +kernel
theorem dX10_again_135 : decode cX10_again 135 = .ok (.ireturn, 1) := by decide +kernel
theorem dX10_keep_0 : decode cX10_keep 0 = .ok (.aload_n 0, 1) := by decide +kernel
theorem dX10_keep_1 : decode cX10_keep 1 = .ok (.iload_n 1, 1) := by decide +kernel
theorem dX10_keep_2 : decode cX10_keep 2 = .ok (.invokevirtual 85, 3) := by decide +kernel
theorem dX10_keep_5 : decode cX10_keep 5 = .ok (.ifCond .eq 12, 3) := by decide +kernel
theorem dX10_keep_8 : decode cX10_keep 8 = .ok (.iload_n 2, 1) := by decide +kernel
theorem dX10_keep_9 : decode cX10_keep 9 = .ok (.iconst 0, 1) := by decide +kernel
theorem dX10_keep_10 : decode cX10_keep 10 = .ok (.iconst 1, 1) := by decide +kernel
theorem dX10_keep_11 : decode cX10_keep 11 = .ok (.invokestatic 33, 3) := by decide +kernel
theorem dX10_keep_14 : decode cX10_keep 14 = .ok (.ifCond .ne 5, 3) := by decide +kernel
theorem dX10_keep_17 : decode cX10_keep 17 = .ok (.iconst (-1), 1) := by decide +kernel
theorem dX10_keep_18 : decode cX10_keep 18 = .ok (.ireturn, 1) := by decide +kernel
theorem dX10_keep_19 : decode cX10_keep 19 = .ok (.aload_n 0, 1) := by decide +kernel
theorem dX10_keep_20 : decode cX10_keep 20 = .ok (.getfield 25, 3) := by decide +kernel
theorem dX10_keep_23 : decode cX10_keep 23 = .ok (.iload_n 1, 1) := by decide +kernel
theorem dX10_keep_24 : decode cX10_keep 24 = .ok (.aaload, 1) := by decide +kernel
theorem dX10_keep_25 : decode cX10_keep 25 = .ok (.getfield 157, 3) := by decide +kernel
theorem dX10_keep_28 : decode cX10_keep 28 = .ok (.astore_n 3, 1) := by decide +kernel
theorem dX10_keep_29 : decode cX10_keep 29 = .ok (.aload_n 3, 1) := by decide +kernel
theorem dX10_keep_30 : decode cX10_keep 30 = .ok (.iload_n 2, 1) := by decide +kernel
theorem dX10_keep_31 : decode cX10_keep 31 = .ok (.aaload, 1) := by decide +kernel
theorem dX10_keep_32 : decode cX10_keep 32 = .ok (.ifnonnull 18, 3) := by decide +kernel
theorem dX10_keep_35 : decode cX10_keep 35 = .ok (.aload_n 3, 1) := by decide +kernel
theorem dX10_keep_36 : decode cX10_keep 36 = .ok (.iload_n 2, 1) := by decide +kernel
theorem dX10_keep_37 : decode cX10_keep 37 = .ok (.aload_n 0, 1) := by decide +kernel
theorem dX10_keep_38 : decode cX10_keep 38 = .ok (.getfield 25, 3) := by decide +kernel
theorem dX10_keep_41 : decode cX10_keep 41 = .ok (.iload_n 1, 1) := by decide +kernel
theorem dX10_keep_42 : decode cX10_keep 42 = .ok (.aaload, 1) := by decide +kernel
theorem dX10_keep_43 : decode cX10_keep 43 = .ok (.getfield 112, 3) := by decide +kernel
theorem dX10_keep_46 : decode cX10_keep 46 = .ok (.invokevirtual 161, 3) := by decide +kernel
theorem dX10_keep_49 : decode cX10_keep 49 = .ok (.aastore, 1) := by decide +kernel
theorem dX10_keep_50 : decode cX10_keep 50 = .ok (.aload_n 3, 1) := by decide +kernel
theorem dX10_keep_51 : decode cX10_keep 51 = .ok (.iload_n 2, 1) := by decide +kernel
theorem dX10_keep_52 : decode cX10_keep 52 = .ok (.aaload, 1) := by decide +kernel
theorem dX10_keep_53 : decode cX10_keep 53 = .ok (.aload_n 0, 1) := by decide +kernel
theorem dX10_keep_54 : decode cX10_keep 54 = .ok (.getfield 25, 3) := by decide +kernel
theorem dX10_keep_57 : decode cX10_keep 57 = .ok (.iload_n 1, 1) := by decide +kernel
theorem dX10_keep_58 : decode cX10_keep 58 = .ok (.aaload, 1) := by decide +kernel
theorem dX10_keep_59 : decode cX10_keep 59 = .ok (.getfield 112, 3) := by decide +kernel
theorem dX10_keep_62 : decode cX10_keep 62 = .ok (.invokevirtual 165, 3) := by decide +kernel
theorem dX10_keep_65 : decode cX10_keep 65 = .ok (.iconst 1, 1) := by decide +kernel
theorem dX10_keep_66 : decode cX10_keep 66 = .ok (.ireturn, 1) := by decide +kernel
theorem dX10_back_0 : decode cX10_back 0 = .ok (.aload_n 0, 1) := by decide +kernel
theorem dX10_back_1 : decode cX10_back 1 = .ok (.iload_n 1, 1) := by decide +kernel
theorem dX10_back_2 : decode cX10_back 2 = .ok (.invokevirtual 85, 3) := by decide +kernel
theorem dX10_back_5 : decode cX10_back 5 = .ok (.ifCond .eq 12, 3) := by decide +kernel
theorem dX10_back_8 : decode cX10_back 8 = .ok (.iload_n 2, 1) := by decide +kernel
theorem dX10_back_9 : decode cX10_back 9 = .ok (.iconst 0, 1) := by decide +kernel
theorem dX10_back_10 : decode cX10_back 10 = .ok (.iconst 1, 1) := by decide +kernel
theorem dX10_back_11 : decode cX10_back 11 = .ok (.invokestatic 33, 3) := by decide +kernel
theorem dX10_back_14 : decode cX10_back 14 = .ok (.ifCond .ne 5, 3) := by decide +kernel
theorem dX10_back_17 : decode cX10_back 17 = .ok (.iconst (-1), 1) := by decide +kernel
theorem dX10_back_18 : decode cX10_back 18 = .ok (.ireturn, 1) := by decide +kernel
theorem dX10_back_19 : decode cX10_back 19 = .ok (.aload_n 0, 1) := by decide +kernel
theorem dX10_back_20 : decode cX10_back 20 = .ok (.getfield 25, 3) := by decide +kernel
theorem dX10_back_23 : decode cX10_back 23 = .ok (.iload_n 1, 1) := by decide +kernel
theorem dX10_back_24 : decode cX10_back 24 = .ok (.aaload, 1) := by decide +kernel
theorem dX10_back_25 : decode cX10_back 25 = .ok (.getfield 157, 3) := by decide +kernel
theorem dX10_back_28 : decode cX10_back 28 = .ok (.iload_n 2, 1) := by decide +kernel
theorem dX10_back_29 : decode cX10_back 29 = .ok (.aaload, 1) := by decide +kernel
theorem dX10_back_30 : decode cX10_back 30 = .ok (.astore_n 3, 1) := by decide +kernel
theorem dX10_back_31 : decode cX10_back 31 = .ok (.aload_n 3, 1) := by decide +kernel
theorem dX10_back_32 : decode cX10_back 32 = .ok (.ifnonnull 5, 3) := by decide +kernel
theorem dX10_back_35 : decode cX10_back 35 = .ok (.iconst (-1), 1) := by decide +kernel
theorem dX10_back_36 : decode cX10_back 36 = .ok (.ireturn, 1) := by decide +kernel
theorem dX10_back_37 : decode cX10_back 37 = .ok (.aload_n 0, 1) := by decide +kernel
theorem dX10_back_38 : decode cX10_back 38 = .ok (.getfield 25, 3) := by decide +kernel
theorem dX10_back_41 : decode cX10_back 41 = .ok (.iload_n 1, 1) := by decide +kernel
theorem dX10_back_42 : decode cX10_back 42 = .ok (.aaload, 1) := by decide +kernel
theorem dX10_back_43 : decode cX10_back 43 = .ok (.getfield 112, 3) := by decide +kernel
theorem dX10_back_46 : decode cX10_back 46 = .ok (.aload_n 3, 1) := by decide +kernel
theorem dX10_back_47 : decode cX10_back 47 = .ok (.invokevirtual 165, 3) := by decide +kernel
theorem dX10_back_50 : decode cX10_back 50 = .ok (.aload_n 3, 1) := by decide +kernel
theorem dX10_back_51 : decode cX10_back 51 = .ok (.getfield 124, 3) := by decide +kernel
theorem dX10_back_54 : decode cX10_back 54 = .ok (.ireturn, 1) := by decide +kernel
theorem dX10_best_0 : decode cX10_best 0 = .ok (.iload_n 1, 1) := by decide +kernel
theorem dX10_best_1 : decode cX10_best 1 = .ok (.iconst 0, 1) := by decide +kernel
theorem dX10_best_2 : decode cX10_best 2 = .ok (.bipush 8, 2) := by decide +kernel
theorem dX10_best_4 : decode cX10_best 4 = .ok (.invokestatic 33, 3) := by decide +kernel
theorem dX10_best_7 : decode cX10_best 7 = .ok (.ifCond .ne 6, 3) := by decide +kernel
theorem dX10_best_10 : decode cX10_best 10 = .ok (.bipush (-2), 2) := by decide +kernel
theorem dX10_best_12 : decode cX10_best 12 = .ok (.ireturn, 1) := by decide +kernel
theorem dX10_best_13 : decode cX10_best 13 = .ok (.aload_n 0, 1) := by decide +kernel
theorem dX10_best_14 : decode cX10_best 14 = .ok (.getfield 19, 3) := by decide +kernel
theorem dX10_best_17 : decode cX10_best 17 = .ok (.iload_n 1, 1) := by decide +kernel
theorem dX10_best_18 : decode cX10_best 18 = .ok (.iload_n 2, 1) := by decide +kernel
theorem dX10_best_19 : decode cX10_best 19 = .ok (.invokevirtual 169, 3) := by decide +kernel
theorem dX10_best_22 : decode cX10_best 22 = .ok (.aload_n 0, 1) := by decide +kernel
theorem dX10_best_23 : decode cX10_best 23 = .ok (.getfield 19, 3) := by decide +kernel
theorem dX10_best_26 : decode cX10_best 26 = .ok (.getfield 173, 3) := by decide +kernel
theorem dX10_best_29 : decode cX10_best 29 = .ok (.ireturn, 1) := by decide +kernel
theorem dX10_seen_0 : decode cX10_seen 0 = .ok (.iload_n 1, 1) := by decide +kernel
theorem dX10_seen_1 : decode cX10_seen 1 = .ok (.iconst 0, 1) := by decide +kernel
theorem dX10_seen_2 : decode cX10_seen 2 = .ok (.bipush 8, 2) := by decide +kernel
theorem dX10_seen_4 : decode cX10_seen 4 = .ok (.invokestatic 33, 3) := by decide +kernel
theorem dX10_seen_7 : decode cX10_seen 7 = .ok (.ifCond .ne 6, 3) := by decide +kernel
theorem dX10_seen_10 : decode cX10_seen 10 = .ok (.bipush (-2), 2) := by decide +kernel
theorem dX10_seen_12 : decode cX10_seen 12 = .ok (.ireturn, 1) := by decide +kernel
theorem dX10_seen_13 : decode cX10_seen 13 = .ok (.aload_n 0, 1) := by decide +kernel
theorem dX10_seen_14 : decode cX10_seen 14 = .ok (.getfield 19, 3) := by decide +kernel
theorem dX10_seen_17 : decode cX10_seen 17 = .ok (.iload_n 1, 1) := by decide +kernel
theorem dX10_seen_18 : decode cX10_seen 18 = .ok (.iload_n 2, 1) := by decide +kernel
theorem dX10_seen_19 : decode cX10_seen 19 = .ok (.invokevirtual 169, 3) := by decide +kernel
theorem dX10_seen_22 : decode cX10_seen 22 = .ok (.aload_n 0, 1) := by decide +kernel
theorem dX10_seen_23 : decode cX10_seen 23 = .ok (.getfield 19, 3) := by decide +kernel
theorem dX10_seen_26 : decode cX10_seen 26 = .ok (.getfield 176, 3) := by decide +kernel
theorem dX10_seen_29 : decode cX10_seen 29 = .ok (.ireturn, 1) := by decide +kernel
theorem dX10_often_0 : decode cX10_often 0 = .ok (.iload_n 1, 1) := by decide +kernel
theorem dX10_often_1 : decode cX10_often 1 = .ok (.invokestatic 29, 3) := by decide +kernel
theorem dX10_often_4 : decode cX10_often 4 = .ok (.ifCond .ne 5, 3) := by decide +kernel
theorem dX10_often_7 : decode cX10_often 7 = .ok (.iconst (-1), 1) := by decide +kernel
theorem dX10_often_8 : decode cX10_often 8 = .ok (.ireturn, 1) := by decide +kernel
theorem dX10_often_9 : decode cX10_often 9 = .ok (.iload_n 2, 1) := by decide +kernel
theorem dX10_often_10 : decode cX10_often 10 = .ok (.iconst (-1), 1) := by decide +kernel
theorem dX10_often_11 : decode cX10_often 11 = .ok (.if_icmp .ne 23, 3) := by decide +kernel
theorem dX10_often_14 : decode cX10_often 14 = .ok (.aload_n 0, 1) := by decide +kernel
theorem dX10_often_15 : decode cX10_often 15 = .ok (.getfield 19, 3) := by decide +kernel
theorem dX10_often_18 : decode cX10_often 18 = .ok (.iload_n 1, 1) := by decide +kernel
theorem dX10_often_19 : decode cX10_often 19 = .ok (.iconst 0, 1) := by decide +kernel
theorem dX10_often_20 : decode cX10_often 20 = .ok (.invokevirtual 179, 3) := by decide +kernel
theorem dX10_often_23 : decode cX10_often 23 = .ok (.aload_n 0, 1) := by decide +kernel
theorem dX10_often_24 : decode cX10_often 24 = .ok (.getfield 19, 3) := by decide +kernel
theorem dX10_often_27 : decode cX10_often 27 = .ok (.iload_n 1, 1) := by decide +kernel
theorem dX10_often_28 : decode cX10_often 28 = .ok (.iconst 1, 1) := by decide +kernel
theorem dX10_often_29 : decode cX10_often 29 = .ok (.invokevirtual 179, 3) := by decide +kernel
theorem dX10_often_32 : decode cX10_often 32 = .ok (.iadd, 1) := by decide +kernel
theorem dX10_often_33 : decode cX10_often 33 = .ok (.ireturn, 1) := by decide +kernel
theorem dX10_often_34 : decode cX10_often 34 = .ok (.iload_n 2, 1) := by decide +kernel
theorem dX10_often_35 : decode cX10_often 35 = .ok (.invokestatic 69, 3) := by decide +kernel
theorem dX10_often_38 : decode cX10_often 38 = .ok (.ifCond .eq 15, 3) := by decide +kernel
theorem dX10_often_41 : decode cX10_often 41 = .ok (.aload_n 0, 1) := by decide +kernel
theorem dX10_often_42 : decode cX10_often 42 = .ok (.getfield 19, 3) := by decide +kernel
theorem dX10_often_45 : decode cX10_often 45 = .ok (.iload_n 1, 1) := by decide +kernel
theorem dX10_often_46 : decode cX10_often 46 = .ok (.iload_n 2, 1) := by decide +kernel
theorem dX10_often_47 : decode cX10_often 47 = .ok (.invokevirtual 179, 3) := by decide +kernel
theorem dX10_often_50 : decode cX10_often 50 = .ok (.goto 5, 3) := by decide +kernel
theorem dX10_often_53 : decode cX10_often 53 = .ok (.bipush (-2), 2) := by decide +kernel
theorem dX10_often_55 : decode cX10_often 55 = .ok (.ireturn, 1) := by decide +kernel
theorem dX10_ticks_0 : decode cX10_ticks 0 = .ok (.aload_n 0, 1) := by decide +kernel
theorem dX10_ticks_1 : decode cX10_ticks 1 = .ok (.iload_n 1, 1) := by decide +kernel
theorem dX10_ticks_2 : decode cX10_ticks 2 = .ok (.invokevirtual 85, 3) := by decide +kernel
theorem dX10_ticks_5 : decode cX10_ticks 5 = .ok (.ifCond .ne 5, 3) := by decide +kernel
theorem dX10_ticks_8 : decode cX10_ticks 8 = .ok (.iconst (-1), 1) := by decide +kernel
theorem dX10_ticks_9 : decode cX10_ticks 9 = .ok (.ireturn, 1) := by decide +kernel
theorem dX10_ticks_10 : decode cX10_ticks 10 = .ok (.iload_n 2, 1) := by decide +kernel
theorem dX10_ticks_11 : decode cX10_ticks 11 = .ok (.iconst 0, 1) := by decide +kernel
theorem dX10_ticks_12 : decode cX10_ticks 12 = .ok (.bipush 100, 2) := by decide +kernel
theorem dX10_ticks_14 : decode cX10_ticks 14 = .ok (.invokestatic 33, 3) := by decide +kernel
theorem dX10_ticks_17 : decode cX10_ticks 17 = .ok (.ifCond .ne 6, 3) := by decide +kernel
theorem dX10_ticks_20 : decode cX10_ticks 20 = .ok (.bipush (-2), 2) := by decide +kernel
theorem dX10_ticks_22 : decode cX10_ticks 22 = .ok (.ireturn, 1) := by decide +kernel
theorem dX10_ticks_23 : decode cX10_ticks 23 = .ok (.aload_n 0, 1) := by decide +kernel
theorem dX10_ticks_24 : decode cX10_ticks 24 = .ok (.getfield 12, 3) := by decide +kernel
theorem dX10_ticks_27 : decode cX10_ticks 27 = .ok (.getfield 182, 3) := by decide +kernel
theorem dX10_ticks_30 : decode cX10_ticks 30 = .ok (.iload_n 2, 1) := by decide +kernel
theorem dX10_ticks_31 : decode cX10_ticks 31 = .ok (.aload_n 0, 1) := by decide +kernel
theorem dX10_ticks_32 : decode cX10_ticks 32 = .ok (.getfield 25, 3) := by decide +kernel
theorem dX10_ticks_35 : decode cX10_ticks 35 = .ok (.iload_n 1, 1) := by decide +kernel
theorem dX10_ticks_36 : decode cX10_ticks 36 = .ok (.aaload, 1) := by decide +kernel
theorem dX10_ticks_37 : decode cX10_ticks 37 = .ok (.getfield 112, 3) := by decide +kernel
theorem dX10_ticks_40 : decode cX10_ticks 40 = .ok (.getfield 116, 3) := by decide +kernel
theorem dX10_ticks_43 : decode cX10_ticks 43 = .ok (.imul, 1) := by decide +kernel
theorem dX10_ticks_44 : decode cX10_ticks 44 = .ok (.iadd, 1) := by decide +kernel
theorem dX10_ticks_45 : decode cX10_ticks 45 = .ok (.ireturn, 1) := by decide +kernel
theorem dX10_told_0 : decode cX10_told 0 = .ok (.iload_n 1, 1) := by decide +kernel
theorem dX10_told_1 : decode cX10_told 1 = .ok (.tableswitch 69 0 4 #[35, 43, 51, 56, 64], 35) := by decide +kernel
theorem dX10_told_36 : decode cX10_told 36 = .ok (.aload_n 0, 1) := by decide +kernel
theorem dX10_told_37 : decode cX10_told 37 = .ok (.getfield 12, 3) := by decide +kernel
theorem dX10_told_40 : decode cX10_told 40 = .ok (.getfield 57, 3) := by decide +kernel
theorem dX10_told_43 : decode cX10_told 43 = .ok (.ireturn, 1) := by decide +kernel
theorem dX10_told_44 : decode cX10_told 44 = .ok (.aload_n 0, 1) := by decide +kernel
theorem dX10_told_45 : decode cX10_told 45 = .ok (.getfield 12, 3) := by decide +kernel
theorem dX10_told_48 : decode cX10_told 48 = .ok (.getfield 182, 3) := by decide +kernel
theorem dX10_told_51 : decode cX10_told 51 = .ok (.ireturn, 1) := by decide +kernel
theorem dX10_told_52 : decode cX10_told 52 = .ok (.aload_n 0, 1) := by decide +kernel
theorem dX10_told_53 : decode cX10_told 53 = .ok (.getfield 72, 3) := by decide +kernel
theorem dX10_told_56 : decode cX10_told 56 = .ok (.ireturn, 1) := by decide +kernel
theorem dX10_told_57 : decode cX10_told 57 = .ok (.aload_n 0, 1) := by decide +kernel
theorem dX10_told_58 : decode cX10_told 58 = .ok (.getfield 19, 3) := by decide +kernel
theorem dX10_told_61 : decode cX10_told 61 = .ok (.getfield 75, 3) := by decide +kernel
theorem dX10_told_64 : decode cX10_told 64 = .ok (.ireturn, 1) := by decide +kernel
theorem dX10_told_65 : decode cX10_told 65 = .ok (.aload_n 0, 1) := by decide +kernel
theorem dX10_told_66 : decode cX10_told 66 = .ok (.getfield 92, 3) := by decide +kernel
theorem dX10_told_69 : decode cX10_told 69 = .ok (.ireturn, 1) := by decide +kernel
theorem dX10_told_70 : decode cX10_told 70 = .ok (.bipush (-2), 2) := by decide +kernel
theorem dX10_told_72 : decode cX10_told 72 = .ok (.ireturn, 1) := by decide +kernel
theorem dX10_empty_0 : decode cX10_empty 0 = .ok (.aload_n 0, 1) := by decide +kernel
theorem dX10_empty_1 : decode cX10_empty 1 = .ok (.getfield 19, 3) := by decide +kernel
theorem dX10_empty_4 : decode cX10_empty 4 = .ok (.getfield 75, 3) := by decide +kernel
theorem dX10_empty_7 : decode cX10_empty 7 = .ok (.istore_n 1, 1) := by decide +kernel
theorem dX10_empty_8 : decode cX10_empty 8 = .ok (.aload_n 0, 1) := by decide +kernel
theorem dX10_empty_9 : decode cX10_empty 9 = .ok (.getfield 19, 3) := by decide +kernel
theorem dX10_empty_12 : decode cX10_empty 12 = .ok (.invokevirtual 185, 3) := by decide +kernel
theorem dX10_empty_15 : decode cX10_empty 15 = .ok (.iload_n 1, 1) := by decide +kernel
theorem dX10_empty_16 : decode cX10_empty 16 = .ok (.ireturn, 1) := by decide +kernel
theorem dX10_within_0 : decode cX10_within 0 = .ok (.iload_n 0, 1) := by decide +kernel
theorem dX10_within_1 : decode cX10_within 1 = .ok (.iload_n 1, 1) := by decide +kernel
theorem dX10_within_2 : decode cX10_within 2 = .ok (.if_icmp .lt 12, 3) := by decide +kernel
theorem dX10_within_5 : decode cX10_within 5 = .ok (.iload_n 0, 1) := by decide +kernel
theorem dX10_within_6 : decode cX10_within 6 = .ok (.iload_n 2, 1) := by decide +kernel
theorem dX10_within_7 : decode cX10_within 7 = .ok (.if_icmp .gt 7, 3) := by decide +kernel
theorem dX10_within_10 : decode cX10_within 10 = .ok (.iconst 1, 1) := by decide +kernel
theorem dX10_within_11 : decode cX10_within 11 = .ok (.goto 4, 3) := by decide +kernel
theorem dX10_within_14 : decode cX10_within 14 = .ok (.iconst 0, 1) := by decide +kernel
theorem dX10_within_15 : decode cX10_within 15 = .ok (.ireturn, 1) := by decide +kernel
theorem dX10_isPlace_0 : decode cX10_isPlace 0 = .ok (.iload_n 0, 1) := by decide +kernel
theorem dX10_isPlace_1 : decode cX10_isPlace 1 = .ok (.iconst 0, 1) := by decide +kernel
theorem dX10_isPlace_2 : decode cX10_isPlace 2 = .ok (.bipush 63, 2) := by decide +kernel
theorem dX10_isPlace_4 : decode cX10_isPlace 4 = .ok (.invokestatic 33, 3) := by decide +kernel
theorem dX10_isPlace_7 : decode cX10_isPlace 7 = .ok (.ireturn, 1) := by decide +kernel
theorem dX10_isRegister_0 : decode cX10_isRegister 0 = .ok (.iload_n 0, 1) := by decide +kernel
theorem dX10_isRegister_1 : decode cX10_isRegister 1 = .ok (.iconst 0, 1) := by decide +kernel
theorem dX10_isRegister_2 : decode cX10_isRegister 2 = .ok (.bipush 7, 2) := by decide +kernel
theorem dX10_isRegister_4 : decode cX10_isRegister 4 = .ok (.invokestatic 33, 3) := by decide +kernel
theorem dX10_isRegister_7 : decode cX10_isRegister 7 = .ok (.ireturn, 1) := by decide +kernel
theorem dX10_isData_0 : decode cX10_isData 0 = .ok (.iload_n 0, 1) := by decide +kernel
theorem dX10_isData_1 : decode cX10_isData 1 = .ok (.iconst 0, 1) := by decide +kernel
theorem dX10_isData_2 : decode cX10_isData 2 = .ok (.bipush 31, 2) := by decide +kernel
theorem dX10_isData_4 : decode cX10_isData 4 = .ok (.invokestatic 33, 3) := by decide +kernel
theorem dX10_isData_7 : decode cX10_isData 7 = .ok (.ireturn, 1) := by decide +kernel
theorem dX10_isWay_0 : decode cX10_isWay 0 = .ok (.iload_n 0, 1) := by decide +kernel
theorem dX10_isWay_1 : decode cX10_isWay 1 = .ok (.ifCond .eq 8, 3) := by decide +kernel
theorem dX10_isWay_4 : decode cX10_isWay 4 = .ok (.iload_n 0, 1) := by decide +kernel
theorem dX10_isWay_5 : decode cX10_isWay 5 = .ok (.iconst 1, 1) := by decide +kernel
theorem dX10_isWay_6 : decode cX10_isWay 6 = .ok (.if_icmp .ne 7, 3) := by decide +kernel
theorem dX10_isWay_9 : decode cX10_isWay 9 = .ok (.iconst 1, 1) := by decide +kernel
theorem dX10_isWay_10 : decode cX10_isWay 10 = .ok (.goto 4, 3) := by decide +kernel
theorem dX10_isWay_13 : decode cX10_isWay 13 = .ok (.iconst 0, 1) := by decide +kernel
theorem dX10_isWay_14 : decode cX10_isWay 14 = .ok (.ireturn, 1) := by decide +kernel
theorem dX10_isIn_0 : decode cX10_isIn 0 = .ok (.iload_n 0, 1) := by decide +kernel
theorem dX10_isIn_1 : decode cX10_isIn 1 = .ok (.iload_n 1, 1) := by decide +kernel
theorem dX10_isIn_2 : decode cX10_isIn 2 = .ok (.ishr, 1) := by decide +kernel
theorem dX10_isIn_3 : decode cX10_isIn 3 = .ok (.iconst 1, 1) := by decide +kernel
theorem dX10_isIn_4 : decode cX10_isIn 4 = .ok (.iand, 1) := by decide +kernel
theorem dX10_isIn_5 : decode cX10_isIn 5 = .ok (.iconst 1, 1) := by decide +kernel
theorem dX10_isIn_6 : decode cX10_isIn 6 = .ok (.if_icmp .ne 7, 3) := by decide +kernel
theorem dX10_isIn_9 : decode cX10_isIn 9 = .ok (.iconst 1, 1) := by decide +kernel
theorem dX10_isIn_10 : decode cX10_isIn 10 = .ok (.goto 4, 3) := by decide +kernel
theorem dX10_isIn_13 : decode cX10_isIn 13 = .ok (.iconst 0, 1) := by decide +kernel
theorem dX10_isIn_14 : decode cX10_isIn 14 = .ok (.ireturn, 1) := by decide +kernel
theorem dX10_lowBits_0 : decode cX10_lowBits 0 = .ok (.iconst 1, 1) := by decide +kernel
theorem dX10_lowBits_1 : decode cX10_lowBits 1 = .ok (.iload_n 0, 1) := by decide +kernel
theorem dX10_lowBits_2 : decode cX10_lowBits 2 = .ok (.ishl, 1) := by decide +kernel
theorem dX10_lowBits_3 : decode cX10_lowBits 3 = .ok (.iconst 1, 1) := by decide +kernel
theorem dX10_lowBits_4 : decode cX10_lowBits 4 = .ok (.isub, 1) := by decide +kernel
theorem dX10_lowBits_5 : decode cX10_lowBits 5 = .ok (.ireturn, 1) := by decide +kernel
theorem dX10_isGuesser_0 : decode cX10_isGuesser 0 = .ok (.iload_n 1, 1) := by decide +kernel
theorem dX10_isGuesser_1 : decode cX10_isGuesser 1 = .ok (.iconst 0, 1) := by decide +kernel
theorem dX10_isGuesser_2 : decode cX10_isGuesser 2 = .ok (.aload_n 0, 1) := by decide +kernel
theorem dX10_isGuesser_3 : decode cX10_isGuesser 3 = .ok (.getfield 92, 3) := by decide +kernel
theorem dX10_isGuesser_6 : decode cX10_isGuesser 6 = .ok (.iconst 1, 1) := by decide +kernel
theorem dX10_isGuesser_7 : decode cX10_isGuesser 7 = .ok (.isub, 1) := by decide +kernel
theorem dX10_isGuesser_8 : decode cX10_isGuesser 8 = .ok (.invokestatic 33, 3) := by decide +kernel
theorem dX10_isGuesser_11 : decode cX10_isGuesser 11 = .ok (.ireturn, 1) := by decide +kernel
theorem dX10_meet_0 : decode cX10_meet 0 = .ok (.aload_n 0, 1) := by decide +kernel
theorem dX10_meet_1 : decode cX10_meet 1 = .ok (.dup, 1) := by decide +kernel
theorem dX10_meet_2 : decode cX10_meet 2 = .ok (.getfield 72, 3) := by decide +kernel
theorem dX10_meet_5 : decode cX10_meet 5 = .ok (.iconst 1, 1) := by decide +kernel
theorem dX10_meet_6 : decode cX10_meet 6 = .ok (.iadd, 1) := by decide +kernel
theorem dX10_meet_7 : decode cX10_meet 7 = .ok (.putfield 72, 3) := by decide +kernel
theorem dX10_meet_10 : decode cX10_meet 10 = .ok (.aload_n 0, 1) := by decide +kernel
theorem dX10_meet_11 : decode cX10_meet 11 = .ok (.getfield 19, 3) := by decide +kernel
theorem dX10_meet_14 : decode cX10_meet 14 = .ok (.iload_n 1, 1) := by decide +kernel
theorem dX10_meet_15 : decode cX10_meet 15 = .ok (.iload_n 2, 1) := by decide +kernel
theorem dX10_meet_16 : decode cX10_meet 16 = .ok (.invokevirtual 188, 3) := by decide +kernel
theorem dX10_meet_19 : decode cX10_meet 19 = .ok (.iconst 0, 1) := by decide +kernel
theorem dX10_meet_20 : decode cX10_meet 20 = .ok (.istore_n 3, 1) := by decide +kernel
theorem dX10_meet_21 : decode cX10_meet 21 = .ok (.iload_n 3, 1) := by decide +kernel
theorem dX10_meet_22 : decode cX10_meet 22 = .ok (.aload_n 0, 1) := by decide +kernel
theorem dX10_meet_23 : decode cX10_meet 23 = .ok (.getfield 92, 3) := by decide +kernel
theorem dX10_meet_26 : decode cX10_meet 26 = .ok (.if_icmp .ge 20, 3) := by decide +kernel
theorem dX10_meet_29 : decode cX10_meet 29 = .ok (.aload_n 0, 1) := by decide +kernel
theorem dX10_meet_30 : decode cX10_meet 30 = .ok (.getfield 25, 3) := by decide +kernel
theorem dX10_meet_33 : decode cX10_meet 33 = .ok (.iload_n 3, 1) := by decide +kernel
theorem dX10_meet_34 : decode cX10_meet 34 = .ok (.aaload, 1) := by decide +kernel
theorem dX10_meet_35 : decode cX10_meet 35 = .ok (.iload_n 1, 1) := by decide +kernel
theorem dX10_meet_36 : decode cX10_meet 36 = .ok (.iload_n 2, 1) := by decide +kernel
theorem dX10_meet_37 : decode cX10_meet 37 = .ok (.invokevirtual 154, 3) := by decide +kernel
theorem dX10_meet_40 : decode cX10_meet 40 = .ok (.iinc 3 1, 3) := by decide +kernel
theorem dX10_meet_43 : decode cX10_meet 43 = .ok (.goto (-22), 3) := by decide +kernel
theorem dX10_meet_46 : decode cX10_meet 46 = .ok (.return_, 1) := by decide +kernel
theorem dX10_fits_0 : decode cX10_fits 0 = .ok (.iload_n 0, 1) := by decide +kernel
theorem dX10_fits_1 : decode cX10_fits 1 = .ok (.tableswitch 198 0 7 #[47, 54, 62, 88, 123, 148, 183, 190], 47) := by decide +kernel
theorem dX10_fits_48 : decode cX10_fits 48 = .ok (.iload_n 1, 1) := by decide +kernel
theorem dX10_fits_49 : decode cX10_fits 49 = .ok (.iconst 0, 1) := by decide +kernel
theorem dX10_fits_50 : decode cX10_fits 50 = .ok (.iconst 2, 1) := by decide +kernel
theorem dX10_fits_51 : decode cX10_fits 51 = .ok (.invokestatic 33, 3) := by decide +kernel
theorem dX10_fits_54 : decode cX10_fits 54 = .ok (.ireturn, 1) := by decide +kernel
theorem dX10_fits_55 : decode cX10_fits 55 = .ok (.iload_n 1, 1) := by decide +kernel
theorem dX10_fits_56 : decode cX10_fits 56 = .ok (.iconst 0, 1) := by decide +kernel
theorem dX10_fits_57 : decode cX10_fits 57 = .ok (.bipush 6, 2) := by decide +kernel
theorem dX10_fits_59 : decode cX10_fits 59 = .ok (.invokestatic 33, 3) := by decide +kernel
theorem dX10_fits_62 : decode cX10_fits 62 = .ok (.ireturn, 1) := by decide +kernel
theorem dX10_fits_63 : decode cX10_fits 63 = .ok (.iload_n 1, 1) := by decide +kernel
theorem dX10_fits_64 : decode cX10_fits 64 = .ok (.iconst 0, 1) := by decide +kernel
theorem dX10_fits_65 : decode cX10_fits 65 = .ok (.bipush 8, 2) := by decide +kernel
theorem dX10_fits_67 : decode cX10_fits 67 = .ok (.invokestatic 33, 3) := by decide +kernel
theorem dX10_fits_70 : decode cX10_fits 70 = .ok (.ifCond .eq 17, 3) := by decide +kernel
theorem dX10_fits_73 : decode cX10_fits 73 = .ok (.iload_n 2, 1) := by decide +kernel
theorem dX10_fits_74 : decode cX10_fits 74 = .ok (.iconst 0, 1) := by decide +kernel
theorem dX10_fits_75 : decode cX10_fits 75 = .ok (.bipush 8, 2) := by decide +kernel
theorem dX10_fits_77 : decode cX10_fits 77 = .ok (.invokestatic 33, 3) := by decide +kernel
theorem dX10_fits_80 : decode cX10_fits 80 = .ok (.ifCond .eq 7, 3) := by decide +kernel
theorem dX10_fits_83 : decode cX10_fits 83 = .ok (.iconst 1, 1) := by decide +kernel
theorem dX10_fits_84 : decode cX10_fits 84 = .ok (.goto 4, 3) := by decide +kernel
theorem dX10_fits_87 : decode cX10_fits 87 = .ok (.iconst 0, 1) := by decide +kernel
theorem dX10_fits_88 : decode cX10_fits 88 = .ok (.ireturn, 1) := by decide +kernel
theorem dX10_fits_89 : decode cX10_fits 89 = .ok (.iload_n 1, 1) := by decide +kernel
theorem dX10_fits_90 : decode cX10_fits 90 = .ok (.iconst 0, 1) := by decide +kernel
theorem dX10_fits_91 : decode cX10_fits 91 = .ok (.bipush 8, 2) := by decide +kernel
theorem dX10_fits_93 : decode cX10_fits 93 = .ok (.invokestatic 33, 3) := by decide +kernel
theorem dX10_fits_96 : decode cX10_fits 96 = .ok (.ifCond .eq 26, 3) := by decide +kernel
theorem dX10_fits_99 : decode cX10_fits 99 = .ok (.iload_n 2, 1) := by decide +kernel
theorem dX10_fits_100 : decode cX10_fits 100 = .ok (.iconst 0, 1) := by decide +kernel
theorem dX10_fits_101 : decode cX10_fits 101 = .ok (.bipush 8, 2) := by decide +kernel
theorem dX10_fits_103 : decode cX10_fits 103 = .ok (.invokestatic 33, 3) := by decide +kernel
theorem dX10_fits_106 : decode cX10_fits 106 = .ok (.ifCond .eq 16, 3) := by decide +kernel
theorem dX10_fits_109 : decode cX10_fits 109 = .ok (.iload_n 3, 1) := by decide +kernel
theorem dX10_fits_110 : decode cX10_fits 110 = .ok (.iconst 0, 1) := by decide +kernel
theorem dX10_fits_111 : decode cX10_fits 111 = .ok (.iconst 1, 1) := by decide +kernel
theorem dX10_fits_112 : decode cX10_fits 112 = .ok (.invokestatic 33, 3) := by decide +kernel
theorem dX10_fits_115 : decode cX10_fits 115 = .ok (.ifCond .eq 7, 3) := by decide +kernel
theorem dX10_fits_118 : decode cX10_fits 118 = .ok (.iconst 1, 1) := by decide +kernel
theorem dX10_fits_119 : decode cX10_fits 119 = .ok (.goto 4, 3) := by decide +kernel
theorem dX10_fits_122 : decode cX10_fits 122 = .ok (.iconst 0, 1) := by decide +kernel
theorem dX10_fits_123 : decode cX10_fits 123 = .ok (.ireturn, 1) := by decide +kernel
theorem dX10_fits_124 : decode cX10_fits 124 = .ok (.iload_n 1, 1) := by decide +kernel
theorem dX10_fits_125 : decode cX10_fits 125 = .ok (.iconst 1, 1) := by decide +kernel
theorem dX10_fits_126 : decode cX10_fits 126 = .ok (.bipush 7, 2) := by decide +kernel
theorem dX10_fits_128 : decode cX10_fits 128 = .ok (.invokestatic 33, 3) := by decide +kernel
theorem dX10_fits_131 : decode cX10_fits 131 = .ok (.ifCond .eq 16, 3) := by decide +kernel
theorem dX10_fits_134 : decode cX10_fits 134 = .ok (.iload_n 2, 1) := by decide +kernel
theorem dX10_fits_135 : decode cX10_fits 135 = .ok (.iconst 1, 1) := by decide +kernel
theorem dX10_fits_136 : decode cX10_fits 136 = .ok (.iconst 4, 1) := by decide +kernel
theorem dX10_fits_137 : decode cX10_fits 137 = .ok (.invokestatic 33, 3) := by decide +kernel
theorem dX10_fits_140 : decode cX10_fits 140 = .ok (.ifCond .eq 7, 3) := by decide +kernel
theorem dX10_fits_143 : decode cX10_fits 143 = .ok (.iconst 1, 1) := by decide +kernel
theorem dX10_fits_144 : decode cX10_fits 144 = .ok (.goto 4, 3) := by decide +kernel
theorem dX10_fits_147 : decode cX10_fits 147 = .ok (.iconst 0, 1) := by decide +kernel
theorem dX10_fits_148 : decode cX10_fits 148 = .ok (.ireturn, 1) := by decide +kernel
theorem dX10_fits_149 : decode cX10_fits 149 = .ok (.iload_n 1, 1) := by decide +kernel
theorem dX10_fits_150 : decode cX10_fits 150 = .ok (.iconst 0, 1) := by decide +kernel
theorem dX10_fits_151 : decode cX10_fits 151 = .ok (.iconst 4, 1) := by decide +kernel
theorem dX10_fits_152 : decode cX10_fits 152 = .ok (.invokestatic 33, 3) := by decide +kernel
theorem dX10_fits_155 : decode cX10_fits 155 = .ok (.ifCond .eq 27, 3) := by decide +kernel
theorem dX10_fits_158 : decode cX10_fits 158 = .ok (.iload_n 2, 1) := by decide +kernel
theorem dX10_fits_159 : decode cX10_fits 159 = .ok (.iconst 1, 1) := by decide +kernel
theorem dX10_fits_160 : decode cX10_fits 160 = .ok (.bipush 8, 2) := by decide +kernel
theorem dX10_fits_162 : decode cX10_fits 162 = .ok (.invokestatic 33, 3) := by decide +kernel
theorem dX10_fits_165 : decode cX10_fits 165 = .ok (.ifCond .eq 17, 3) := by decide +kernel
theorem dX10_fits_168 : decode cX10_fits 168 = .ok (.iload_n 3, 1) := by decide +kernel
theorem dX10_fits_169 : decode cX10_fits 169 = .ok (.iconst 0, 1) := by decide +kernel
theorem dX10_fits_170 : decode cX10_fits 170 = .ok (.bipush 50, 2) := by decide +kernel
theorem dX10_fits_172 : decode cX10_fits 172 = .ok (.invokestatic 33, 3) := by decide +kernel
theorem dX10_fits_175 : decode cX10_fits 175 = .ok (.ifCond .eq 7, 3) := by decide +kernel
theorem dX10_fits_178 : decode cX10_fits 178 = .ok (.iconst 1, 1) := by decide +kernel
theorem dX10_fits_179 : decode cX10_fits 179 = .ok (.goto 4, 3) := by decide +kernel
theorem dX10_fits_182 : decode cX10_fits 182 = .ok (.iconst 0, 1) := by decide +kernel
theorem dX10_fits_183 : decode cX10_fits 183 = .ok (.ireturn, 1) := by decide +kernel
theorem dX10_fits_184 : decode cX10_fits 184 = .ok (.iload_n 1, 1) := by decide +kernel
theorem dX10_fits_185 : decode cX10_fits 185 = .ok (.iconst 1, 1) := by decide +kernel
theorem dX10_fits_186 : decode cX10_fits 186 = .ok (.iconst 3, 1) := by decide +kernel
theorem dX10_fits_187 : decode cX10_fits 187 = .ok (.invokestatic 33, 3) := by decide +kernel
theorem dX10_fits_190 : decode cX10_fits 190 = .ok (.ireturn, 1) := by decide +kernel
theorem dX10_fits_191 : decode cX10_fits 191 = .ok (.iload_n 3, 1) := by decide +kernel
theorem dX10_fits_192 : decode cX10_fits 192 = .ok (.iconst 0, 1) := by decide +kernel
theorem dX10_fits_193 : decode cX10_fits 193 = .ok (.bipush 6, 2) := by decide +kernel
theorem dX10_fits_195 : decode cX10_fits 195 = .ok (.invokestatic 33, 3) := by decide +kernel
theorem dX10_fits_198 : decode cX10_fits 198 = .ok (.ireturn, 1) := by decide +kernel
theorem dX10_fits_199 : decode cX10_fits 199 = .ok (.iconst 0, 1) := by decide +kernel
theorem dX10_fits_200 : decode cX10_fits 200 = .ok (.ireturn, 1) := by decide +kernel
theorem dX10_made_0 : decode cX10_made 0 = .ok (.iload_n 1, 1) := by decide +kernel
theorem dX10_made_1 : decode cX10_made 1 = .ok (.tableswitch 140 1 7 #[43, 55, 67, 80, 90, 102, 111], 43) := by decide +kernel
theorem dX10_made_44 : decode cX10_made 44 = .ok (.new 191, 3) := by decide +kernel
theorem dX10_made_47 : decode cX10_made 47 = .ok (.dup, 1) := by decide +kernel
theorem dX10_made_48 : decode cX10_made 48 = .ok (.iload_n 2, 1) := by decide +kernel
theorem dX10_made_49 : decode cX10_made 49 = .ok (.iconst 0, 1) := by decide +kernel
theorem dX10_made_50 : decode cX10_made 50 = .ok (.iconst 0, 1) := by decide +kernel
theorem dX10_made_51 : decode cX10_made 51 = .ok (.iconst 1, 1) := by decide +kernel
theorem dX10_made_52 : decode cX10_made 52 = .ok (.invokespecial 193, 3) := by decide +kernel
theorem dX10_made_55 : decode cX10_made 55 = .ok (.areturn, 1) := by decide +kernel
theorem dX10_made_56 : decode cX10_made 56 = .ok (.new 191, 3) := by decide +kernel
theorem dX10_made_59 : decode cX10_made 59 = .ok (.dup, 1) := by decide +kernel
theorem dX10_made_60 : decode cX10_made 60 = .ok (.iload_n 2, 1) := by decide +kernel
theorem dX10_made_61 : decode cX10_made 61 = .ok (.iload_n 3, 1) := by decide +kernel
theorem dX10_made_62 : decode cX10_made 62 = .ok (.iconst 0, 1) := by decide +kernel
theorem dX10_made_63 : decode cX10_made 63 = .ok (.iconst 1, 1) := by decide +kernel
theorem dX10_made_64 : decode cX10_made 64 = .ok (.invokespecial 193, 3) := by decide +kernel
theorem dX10_made_67 : decode cX10_made 67 = .ok (.areturn, 1) := by decide +kernel
theorem dX10_made_68 : decode cX10_made 68 = .ok (.new 191, 3) := by decide +kernel
theorem dX10_made_71 : decode cX10_made 71 = .ok (.dup, 1) := by decide +kernel
theorem dX10_made_72 : decode cX10_made 72 = .ok (.iload_n 2, 1) := by decide +kernel
theorem dX10_made_73 : decode cX10_made 73 = .ok (.iload_n 3, 1) := by decide +kernel
theorem dX10_made_74 : decode cX10_made 74 = .ok (.iconst 1, 1) := by decide +kernel
theorem dX10_made_75 : decode cX10_made 75 = .ok (.iload 4, 2) := by decide +kernel
theorem dX10_made_77 : decode cX10_made 77 = .ok (.invokespecial 193, 3) := by decide +kernel
theorem dX10_made_80 : decode cX10_made 80 = .ok (.areturn, 1) := by decide +kernel
theorem dX10_made_81 : decode cX10_made 81 = .ok (.new 196, 3) := by decide +kernel
theorem dX10_made_84 : decode cX10_made 84 = .ok (.dup, 1) := by decide +kernel
theorem dX10_made_85 : decode cX10_made 85 = .ok (.iload_n 2, 1) := by decide +kernel
theorem dX10_made_86 : decode cX10_made 86 = .ok (.iload_n 3, 1) := by decide +kernel
theorem dX10_made_87 : decode cX10_made 87 = .ok (.invokespecial 198, 3) := by decide +kernel
theorem dX10_made_90 : decode cX10_made 90 = .ok (.areturn, 1) := by decide +kernel
theorem dX10_made_91 : decode cX10_made 91 = .ok (.new 200, 3) := by decide +kernel
theorem dX10_made_94 : decode cX10_made 94 = .ok (.dup, 1) := by decide +kernel
theorem dX10_made_95 : decode cX10_made 95 = .ok (.iload_n 2, 1) := by decide +kernel
theorem dX10_made_96 : decode cX10_made 96 = .ok (.iload_n 3, 1) := by decide +kernel
theorem dX10_made_97 : decode cX10_made 97 = .ok (.iload 4, 2) := by decide +kernel
theorem dX10_made_99 : decode cX10_made 99 = .ok (.invokespecial 202, 3) := by decide +kernel
theorem dX10_made_102 : decode cX10_made 102 = .ok (.areturn, 1) := by decide +kernel
theorem dX10_made_103 : decode cX10_made 103 = .ok (.new 205, 3) := by decide +kernel
theorem dX10_made_106 : decode cX10_made 106 = .ok (.dup, 1) := by decide +kernel
theorem dX10_made_107 : decode cX10_made 107 = .ok (.iload_n 2, 1) := by decide +kernel
theorem dX10_made_108 : decode cX10_made 108 = .ok (.invokespecial 207, 3) := by decide +kernel
theorem dX10_made_111 : decode cX10_made 111 = .ok (.areturn, 1) := by decide +kernel
theorem dX10_made_112 : decode cX10_made 112 = .ok (.new 209, 3) := by decide +kernel
theorem dX10_made_115 : decode cX10_made 115 = .ok (.dup, 1) := by decide +kernel
theorem dX10_made_116 : decode cX10_made 116 = .ok (.aload_n 0, 1) := by decide +kernel
theorem dX10_made_117 : decode cX10_made 117 = .ok (.getfield 25, 3) := by decide +kernel
theorem dX10_made_120 : decode cX10_made 120 = .ok (.iload_n 2, 1) := by decide +kernel
theorem dX10_made_121 : decode cX10_made 121 = .ok (.aaload, 1) := by decide +kernel
theorem dX10_made_122 : decode cX10_made 122 = .ok (.aload_n 0, 1) := by decide +kernel
theorem dX10_made_123 : decode cX10_made 123 = .ok (.getfield 25, 3) := by decide +kernel
theorem dX10_made_126 : decode cX10_made 126 = .ok (.iload_n 3, 1) := by decide +kernel
theorem dX10_made_127 : decode cX10_made 127 = .ok (.aaload, 1) := by decide +kernel
theorem dX10_made_128 : decode cX10_made 128 = .ok (.iconst 1, 1) := by decide +kernel
theorem dX10_made_129 : decode cX10_made 129 = .ok (.iload_n 2, 1) := by decide +kernel
theorem dX10_made_130 : decode cX10_made 130 = .ok (.ishl, 1) := by decide +kernel
theorem dX10_made_131 : decode cX10_made 131 = .ok (.iconst 1, 1) := by decide +kernel
theorem dX10_made_132 : decode cX10_made 132 = .ok (.iload_n 3, 1) := by decide +kernel
theorem dX10_made_133 : decode cX10_made 133 = .ok (.ishl, 1) := by decide +kernel
theorem dX10_made_134 : decode cX10_made 134 = .ok (.ior, 1) := by decide +kernel
theorem dX10_made_135 : decode cX10_made 135 = .ok (.iload 4, 2) := by decide +kernel
theorem dX10_made_137 : decode cX10_made 137 = .ok (.invokespecial 211, 3) := by decide +kernel
theorem dX10_made_140 : decode cX10_made 140 = .ok (.areturn, 1) := by decide +kernel
theorem dX10_made_141 : decode cX10_made 141 = .ok (.new 214, 3) := by decide +kernel
theorem dX10_made_144 : decode cX10_made 144 = .ok (.dup, 1) := by decide +kernel
theorem dX10_made_145 : decode cX10_made 145 = .ok (.aload_n 0, 1) := by decide +kernel
theorem dX10_made_146 : decode cX10_made 146 = .ok (.getfield 12, 3) := by decide +kernel
theorem dX10_made_149 : decode cX10_made 149 = .ok (.iload_n 2, 1) := by decide +kernel
theorem dX10_made_150 : decode cX10_made 150 = .ok (.invokespecial 216, 3) := by decide +kernel
theorem dX10_made_153 : decode cX10_made 153 = .ok (.areturn, 1) := by decide +kernel
theorem dX10_groupOf_0 : decode cX10_groupOf 0 = .ok (.iconst 1, 1) := by decide +kernel
theorem dX10_groupOf_1 : decode cX10_groupOf 1 = .ok (.iload_n 1, 1) := by decide +kernel
theorem dX10_groupOf_2 : decode cX10_groupOf 2 = .ok (.ishl, 1) := by decide +kernel
theorem dX10_groupOf_3 : decode cX10_groupOf 3 = .ok (.istore_n 2, 1) := by decide +kernel
theorem dX10_groupOf_4 : decode cX10_groupOf 4 = .ok (.iload_n 1, 1) := by decide +kernel
theorem dX10_groupOf_5 : decode cX10_groupOf 5 = .ok (.istore_n 3, 1) := by decide +kernel
theorem dX10_groupOf_6 : decode cX10_groupOf 6 = .ok (.iload_n 3, 1) := by decide +kernel
theorem dX10_groupOf_7 : decode cX10_groupOf 7 = .ok (.ifCond .lt 29, 3) := by decide +kernel
theorem dX10_groupOf_10 : decode cX10_groupOf 10 = .ok (.iload_n 2, 1) := by decide +kernel
theorem dX10_groupOf_11 : decode cX10_groupOf 11 = .ok (.iload_n 3, 1) := by decide +kernel
theorem dX10_groupOf_12 : decode cX10_groupOf 12 = .ok (.invokestatic 150, 3) := by decide +kernel
theorem dX10_groupOf_15 : decode cX10_groupOf 15 = .ok (.ifCond .eq 15, 3) := by decide +kernel
theorem dX10_groupOf_18 : decode cX10_groupOf 18 = .ok (.iload_n 2, 1) := by decide +kernel
theorem dX10_groupOf_19 : decode cX10_groupOf 19 = .ok (.aload_n 0, 1) := by decide +kernel
theorem dX10_groupOf_20 : decode cX10_groupOf 20 = .ok (.getfield 25, 3) := by decide +kernel
theorem dX10_groupOf_23 : decode cX10_groupOf 23 = .ok (.iload_n 3, 1) := by decide +kernel
theorem dX10_groupOf_24 : decode cX10_groupOf 24 = .ok (.aaload, 1) := by decide +kernel
theorem dX10_groupOf_25 : decode cX10_groupOf 25 = .ok (.invokevirtual 219, 3) := by decide +kernel
theorem dX10_groupOf_28 : decode cX10_groupOf 28 = .ok (.ior, 1) := by decide +kernel
theorem dX10_groupOf_29 : decode cX10_groupOf 29 = .ok (.istore_n 2, 1) := by decide +kernel
theorem dX10_groupOf_30 : decode cX10_groupOf 30 = .ok (.iinc 3 (-1), 3) := by decide +kernel
theorem dX10_groupOf_33 : decode cX10_groupOf 33 = .ok (.goto (-27), 3) := by decide +kernel
theorem dX10_groupOf_36 : decode cX10_groupOf 36 = .ok (.iload_n 2, 1) := by decide +kernel
theorem dX10_groupOf_37 : decode cX10_groupOf 37 = .ok (.ireturn, 1) := by decide +kernel
theorem dJ9_abs_0f7a4_0 : decode cJ9_abs_0f7a4 0 = .ok (.iload_n 0, 1) := by decide +kernel
theorem dJ9_abs_0f7a4_1 : decode cJ9_abs_0f7a4 1 = .ok (.ifCond .ge 8, 3) := by decide +kernel
theorem dJ9_abs_0f7a4_4 : decode cJ9_abs_0f7a4 4 = .ok (.iload_n 0, 1) := by decide +kernel
theorem dJ9_abs_0f7a4_5 : decode cJ9_abs_0f7a4 5 = .ok (.ineg, 1) := by decide +kernel
theorem dJ9_abs_0f7a4_6 : decode cJ9_abs_0f7a4 6 = .ok (.goto 4, 3) := by decide +kernel
theorem dJ9_abs_0f7a4_9 : decode cJ9_abs_0f7a4 9 = .ok (.iload_n 0, 1) := by decide +kernel
theorem dJ9_abs_0f7a4_10 : decode cJ9_abs_0f7a4 10 = .ok (.ireturn, 1) := by decide +kernel
theorem dJ9_max_7cf53_0 : decode cJ9_max_7cf53 0 = .ok (.iload_n 0, 1) := by decide +kernel
theorem dJ9_max_7cf53_1 : decode cJ9_max_7cf53 1 = .ok (.iload_n 1, 1) := by decide +kernel
theorem dJ9_max_7cf53_2 : decode cJ9_max_7cf53 2 = .ok (.if_icmp .lt 7, 3) := by decide +kernel
theorem dJ9_max_7cf53_5 : decode cJ9_max_7cf53 5 = .ok (.iload_n 0, 1) := by decide +kernel
theorem dJ9_max_7cf53_6 : decode cJ9_max_7cf53 6 = .ok (.goto 4, 3) := by decide +kernel
theorem dJ9_max_7cf53_9 : decode cJ9_max_7cf53 9 = .ok (.iload_n 1, 1) := by decide +kernel
theorem dJ9_max_7cf53_10 : decode cJ9_max_7cf53 10 = .ok (.ireturn, 1) := by decide +kernel
theorem dJ9_min_7cf53_0 : decode cJ9_min_7cf53 0 = .ok (.iload_n 0, 1) := by decide +kernel
theorem dJ9_min_7cf53_1 : decode cJ9_min_7cf53 1 = .ok (.iload_n 1, 1) := by decide +kernel
theorem dJ9_min_7cf53_2 : decode cJ9_min_7cf53 2 = .ok (.if_icmp .gt 7, 3) := by decide +kernel
theorem dJ9_min_7cf53_5 : decode cJ9_min_7cf53 5 = .ok (.iload_n 0, 1) := by decide +kernel
theorem dJ9_min_7cf53_6 : decode cJ9_min_7cf53 6 = .ok (.goto 4, 3) := by decide +kernel
theorem dJ9_min_7cf53_9 : decode cJ9_min_7cf53 9 = .ok (.iload_n 1, 1) := by decide +kernel
theorem dJ9_min_7cf53_10 : decode cJ9_min_7cf53 10 = .ok (.ireturn, 1) := by decide +kernel
theorem dJ7_fill_53178_0 : decode cJ7_fill_53178 0 = .ok (.iconst 0, 1) := by decide +kernel
theorem dJ7_fill_53178_1 : decode cJ7_fill_53178 1 = .ok (.istore_n 2, 1) := by decide +kernel
theorem dJ7_fill_53178_2 : decode cJ7_fill_53178 2 = .ok (.aload_n 0, 1) := by decide +kernel
theorem dJ7_fill_53178_3 : decode cJ7_fill_53178 3 = .ok (.arraylength, 1) := by decide +kernel
theorem dJ7_fill_53178_4 : decode cJ7_fill_53178 4 = .ok (.istore_n 3, 1) := by decide +kernel
theorem dJ7_fill_53178_5 : decode cJ7_fill_53178 5 = .ok (.iload_n 2, 1) := by decide +kernel
theorem dJ7_fill_53178_6 : decode cJ7_fill_53178 6 = .ok (.iload_n 3, 1) := by decide +kernel
theorem dJ7_fill_53178_7 : decode cJ7_fill_53178 7 = .ok (.if_icmp .ge 13, 3) := by decide +kernel
theorem dJ7_fill_53178_10 : decode cJ7_fill_53178 10 = .ok (.aload_n 0, 1) := by decide +kernel
theorem dJ7_fill_53178_11 : decode cJ7_fill_53178 11 = .ok (.iload_n 2, 1) := by decide +kernel
theorem dJ7_fill_53178_12 : decode cJ7_fill_53178 12 = .ok (.iload_n 1, 1) := by decide +kernel
theorem dJ7_fill_53178_13 : decode cJ7_fill_53178 13 = .ok (.iastore, 1) := by decide +kernel
theorem dJ7_fill_53178_14 : decode cJ7_fill_53178 14 = .ok (.iinc 2 1, 3) := by decide +kernel
theorem dJ7_fill_53178_17 : decode cJ7_fill_53178 17 = .ok (.goto (-12), 3) := by decide +kernel
theorem dJ7_fill_53178_20 : decode cJ7_fill_53178 20 = .ok (.return_, 1) := by decide +kernel
end
section
/-! the abstract heap: its size, and what each address from the law's start on holds; array types by number (0 int, 1 boolean, 2 Guesser, 3 Learnt), classes by their place in vwCl -/
abbrev jq_E : Type := (Nat × vp_A) ⊕ (Nat × List Value)
abbrev jq_H : Type := Nat × (Nat → Option jq_E)
def jq_to (ct : Nat → ClassId) (x : jq_E) : va_E := match x with
  | .inl t => .inl (ct t.1, t.2)
  | .inr o => .inr o
def jq_tys (ct : Nat → ClassId) : List (ClassId × FieldType) := [(ct 0, .int), (ct 1, .boolean), (ct 2, .object "WayGuesses$Guesser"), (ct 3, .object "WayGuesses$Learnt")]
def jq_W (bs : Nat) (D : va_G) (ct : Nat → ClassId) (h : jq_H) (H : Heap) : Prop := H.size = h.1 ∧ ∀ (a : Nat) (x : jq_E), h.2 a = some x → bs ≤ a ∧ va_at D vwCl (a, jq_to ct x) H
def jq_X (bs : Nat) (D : va_G) (ct : Nat → ClassId) (H0 : Heap) (h : jq_H) (H : Heap) (locs : List Loc) : Prop := jq_W bs D ct h H ∧ va_S (fun q => bs ≤ q) H0 H locs
/-! words: those that every state keeps, and those of nest mates and their like -/
def jq_nk (w : Cond) : Bool := match w with
  | .fieldLinkNest _ _ _ _ _ _ => true
  | .methodLinkNest _ _ _ _ => true
  | .declares _ => true
  | .castable _ _ => true
  | .arrayOver (.object _) => true
  | _ => false
def jq_N : List Cond := tables_1.filter jq_nk
def jq_G : List Cond := lw_tbl.filter goodWord
theorem jq_inG {w : Cond} (k : Nat) (h : tables_1[k]? = some w) (hg : goodWord w = true) : w ∈ jq_G := List.mem_filter.mpr ⟨List.mem_append_right _ (List.mem_of_getElem? h), hg⟩
theorem jq_inS {w : Cond} (k : Nat) (h : (k2_sels lw_privs)[k]? = some w) (hg : goodWord w = true) : w ∈ jq_G := List.mem_filter.mpr ⟨List.mem_append_left _ (List.mem_of_getElem? h), hg⟩
theorem jq_inN {w : Cond} (k : Nat) (h : tables_1[k]? = some w) (hg : jq_nk w = true) : w ∈ jq_N := List.mem_filter.mpr ⟨List.mem_of_getElem? h, hg⟩
theorem jq_goodG (w : Cond) (h : w ∈ jq_G) : (w.onTables && w.keeps) = true ∨ ∃ ty, w = .arrayClass ty := good_of_word (List.mem_filter.mp h).2
theorem jq_goodIn {a : Cond} {ws : List Cond} (h : ∀ w ∈ ws, w ∈ jq_G) : GoodIn (a :: jq_G) ws := fun w hw => ⟨List.mem_cons_of_mem _ (h w hw), jq_goodG w (h w hw)⟩
theorem jq_goodIn0 {ws : List Cond} (h : ∀ w ∈ ws, w ∈ jq_G) : GoodIn jq_G ws := fun w hw => ⟨h w hw, jq_goodG w (h w hw)⟩
theorem jq_Nwarm {s U : State} (hW : s.WarmedH U.vm) (h : ∀ w ∈ jq_N, va_Nw w s) : ∀ w ∈ jq_N, va_Nw w U := by
  intro w hw
  have h1 := h w hw
  have h2 := (List.mem_filter.mp hw).2
  unfold jq_nk at h2
  split at h2
  · exact va_Nw.warmF hW h1
  · exact va_Nw.warmM hW h1
  · exact va_Nw.warmD hW h1
  · exact va_Nw.warmC hW h1
  · exact va_AO.moved hW.alike h1
  · cases h2
theorem jq_Nsame {s U : State} (hv : s.vm = U.vm) (h : ∀ w ∈ jq_N, va_Nw w s) : ∀ w ∈ jq_N, va_Nw w U := by
  intro w hw
  have h1 := h w hw
  have h2 := (List.mem_filter.mp hw).2
  unfold jq_nk at h2
  split at h2
  · exact va_Nw.same rfl hv h1
  · exact va_Nw.same rfl hv h1
  · exact va_Nw.same rfl hv h1
  · exact va_Nw.same rfl hv h1
  · exact va_AO.moved (by rw [hv]; exact Vm.Alike.refl U.vm) h1
  · cases h2
/-- what a method's walk stands on -/
def jq_C (p : Program) (s : State) (m : MethodId) (args : Array Value) (c : Code) (cc : ByteArray) (nL : Nat) (own : String) (D : va_G) (ct : Nat → ClassId) (bs : Nat) : Prop :=
  p.tables.exec = Jvm.exec ∧ c.code = cc ∧ c.maxLocals = nL ∧ s.vm.findClass own = some m.cls ∧ (∀ w ∈ jq_G, w.before args s = true) ∧ va_K D vwCl (jq_tys ct) s ∧ (∀ w ∈ jq_N, va_Nw w s) ∧ bs ≤ s.heap.size
theorem jq_one {D : va_G} {cl : List vw_C} {q : Nat × va_E} {H : Heap} (h : va_at D cl q H) : va_P D cl [q] H := by
  intro k x hx
  match k, hx with
  | 0, hx => cases hx; exact h
  | k + 1, hx => simp at hx
theorem jq_W.lt {bs : Nat} {D : va_G} {ct : Nat → ClassId} {h : jq_H} {H : Heap} (w : jq_W bs D ct h H) {a : Nat} {x : jq_E} (hh : h.2 a = some x) : a < h.1 := by
  have h1 := (w.2 a x hh).2.lt
  rw [w.1] at h1
  exact h1
theorem jq_W.set {bs : Nat} {D : va_G} {ct : Nat → ClassId} {h : jq_H} {H H1 : Heap} (w : jq_W bs D ct h H) {a : Nat} {x0 x : jq_E} (hh : h.2 a = some x0) (he : va_at D vwCl (a, jq_to ct x) H1) (z : H1.size = H.size) (oq : ∀ q : Nat, q ≠ a → H1[q]? = H[q]?) : jq_W bs D ct (h.1, va_up h.2 a (some x)) H1 := by
  refine ⟨by rw [z]; exact w.1, fun b y hy => ?_⟩
  by_cases hb : b = a
  · subst hb
    simp only [va_up, if_true] at hy
    cases hy
    exact ⟨(w.2 b _ hh).1, he⟩
  · simp only [va_up, if_neg hb] at hy
    exact ⟨(w.2 b y hy).1, (w.2 b y hy).2.kept (oq b hb)⟩
theorem jq_W.push {bs : Nat} {D : va_G} {ct : Nat → ClassId} {h : jq_H} {H H1 : Heap} (w : jq_W bs D ct h H) {x : jq_E} (hbs : bs ≤ h.1) (he : va_at D vwCl (h.1, jq_to ct x) H1) (z : H1.size = h.1 + 1) (o : ∀ q : Nat, q < h.1 → H1[q]? = H[q]?) : jq_W bs D ct (h.1 + 1, va_up h.2 h.1 (some x)) H1 := by
  refine ⟨z, fun b y hy => ?_⟩
  by_cases hb : b = h.1
  · subst hb
    simp only [va_up, if_true] at hy
    cases hy
    exact ⟨hbs, he⟩
  · simp only [va_up, if_neg hb] at hy
    exact ⟨(w.2 b y hy).1, (w.2 b y hy).2.kept (o b (w.lt hy))⟩
theorem jq_b {α β : Type} {o : Option α} {K : α → Option β} {r : β} (h : o.bind K = some r) : ∃ x, o = some x ∧ K x = some r := by
  cases o with
  | none => cases h
  | some x => exact ⟨x, rfl, h⟩
theorem jq_t {β : Type} {c : Prop} {i : Decidable c} {x y r : β} (hc : c) (h : (@ite _ c i x y) = r) : x = r := by rw [if_pos hc] at h; exact h
theorem jq_n {β : Type} {c : Prop} {i : Decidable c} {x y r : β} (hc : ¬ c) (h : (@ite _ c i x y) = r) : y = r := by rw [if_neg hc] at h; exact h
/-! ===== what the heap's operations are ===== -/
def jq_f (cs : List Nat) (k : Nat) (h : jq_H) (a : Nat) : Option Value := match h.2 a with
  | some (.inr o) => if o.1 ∈ cs then o.2[k]? else none
  | _ => none
def jq_gI (cs : List Nat) (k : Nat) (h : jq_H) (a : Nat) : Option Int32 := match jq_f cs k h a with
  | some (.int x) => some x
  | _ => none
def jq_gR (cs : List Nat) (k : Nat) (h : jq_H) (a : Nat) : Option Nat := match jq_f cs k h a with
  | some (.ref x) => some x
  | _ => none
def jq_p (cs : List Nat) (k : Nat) (h : jq_H) (a : Nat) (v : Value) : Option jq_H := match h.2 a with
  | some (.inr o) => if o.1 ∈ cs ∧ k < o.2.length then some (h.1, va_up h.2 a (some (.inr (o.1, o.2.set k v)))) else none
  | _ => none
def jq_ldI (t : Nat) (h : jq_H) (a : Nat) (i : Int32) : Option Int32 := match h.2 a with
  | some (.inl (t', n, .inl f)) => if t' = t ∧ ¬ (i < 0 ∨ n ≤ i.toNatClampNeg) then some (f i.toNatClampNeg) else none
  | _ => none
def jq_stI (h : jq_H) (a : Nat) (i : Int32) (x : Int32) : Option jq_H := match h.2 a with
  | some (.inl (t', n, .inl f)) => if t' = 0 ∧ ¬ (i < 0 ∨ n ≤ i.toNatClampNeg) then some (h.1, va_up h.2 a (some (.inl (0, n, .inl (upd f i.toNatClampNeg x))))) else none
  | _ => none
def jq_stZ (h : jq_H) (a : Nat) (i : Int32) (x : Int32) : Option jq_H := match h.2 a with
  | some (.inl (t', n, .inl f)) => if t' = 1 ∧ ¬ (i < 0 ∨ n ≤ i.toNatClampNeg) ∧ (x = 0 ∨ x = 1) then some (h.1, va_up h.2 a (some (.inl (1, n, .inl (upd f i.toNatClampNeg x))))) else none
  | _ => none
def jq_ldR (t : Nat) (h : jq_H) (a : Nat) (i : Int32) : Option (Option Nat) := match h.2 a with
  | some (.inl (t', n, .inr (.inr (.inr (.inr f))))) => if t' = t ∧ ¬ (i < 0 ∨ n ≤ i.toNatClampNeg) then some (f i.toNatClampNeg) else none
  | _ => none
def jq_ldN (t : Nat) (h : jq_H) (a : Nat) (i : Int32) : Option Nat := match jq_ldR t h a i with
  | some (some q) => some q
  | _ => none
def jq_stR (t : Nat) (cs : List Nat) (h : jq_H) (a : Nat) (i : Int32) (v : Nat) : Option jq_H := match h.2 a, h.2 v with
  | some (.inl (t', n, .inr (.inr (.inr (.inr f))))), some (.inr o) => if t' = t ∧ ¬ (i < 0 ∨ n ≤ i.toNatClampNeg) ∧ o.1 ∈ cs then some (h.1, va_up h.2 a (some (.inl (t, n, .inr (.inr (.inr (.inr (va_up f i.toNatClampNeg (some v))))))))) else none
  | _, _ => none
def jq_len (h : jq_H) (a : Nat) : Option Int32 := match h.2 a with
  | some (.inl x) => if x.1 < 4 then some (Int32.ofNat x.2.1) else none
  | _ => none
def jq_newI (t B : Nat) (h : jq_H) (n : Int32) : Option (Nat × jq_H) := if n < 0 ∨ B < n.toNatClampNeg then none else some (h.1, (h.1 + 1, va_up h.2 h.1 (some (.inl (t, n.toNatClampNeg, .inl (fun _ => 0))))))
def jq_newR (t B : Nat) (h : jq_H) (n : Int32) : Option (Nat × jq_H) := if n < 0 ∨ B < n.toNatClampNeg then none else some (h.1, (h.1 + 1, va_up h.2 h.1 (some (.inl (t, n.toNatClampNeg, .inr (.inr (.inr (.inr (fun _ => none)))))))))
def jq_newO (ci : Nat) (fs : List Value) (h : jq_H) : Nat × jq_H := (h.1, (h.1 + 1, va_up h.2 h.1 (some (.inr (ci, fs)))))
def jq_cpy (h : jq_H) (a0 : Nat) (sp : Int32) (a1 : Nat) (dp : Int32) (n : Int32) : Option jq_H := match h.2 a0, h.2 a1 with
  | some (.inl (t0, n0, .inl f)), some (.inl (t1, n1, .inl g)) => if t0 = 0 ∧ t1 = 0 ∧ ¬ sp < 0 ∧ ¬ dp < 0 ∧ ¬ n < 0 ∧ sp.toNatClampNeg + n.toNatClampNeg ≤ n0 ∧ dp.toNatClampNeg + n.toNatClampNeg ≤ n1 then some (h.1, va_up h.2 a1 (some (.inl (0, n1, .inl (va_cpy f g sp.toNatClampNeg dp.toNatClampNeg n.toNatClampNeg))))) else none
  | _, _ => none
/-- a name for a number -/
def jq_l {α β : Type} (x : α) (K : α → β) : β := K x
/-- which class an object is of -/
def jq_ci (h : jq_H) (a : Nat) : Nat := match h.2 a with
  | some (.inr o) => o.1
  | _ => 1000
/-! ===== field sites ===== -/
def jq_CF (ci : Nat) (C : String) (T : u_T) (N : Nat) (ty : Nat → FieldType) : Prop := vwCl[ci]? = some (C, T, N) ∧ (∀ w ∈ u_ws C T N, w ∈ jq_G) ∧ (∀ k, k < N → parseFieldDescriptor (T k).2.2.1 = some (ty k)) ∧ (∀ a, a < N → ∀ b, b < N → a ≠ b → (T a).2.1 ≠ (T b).2.1)
def jq_FS (own : String) (idx : Nat) (cs : List Nat) (k : Nat) (dcl ds : String) (fin : Bool) : Prop := ∃ (ref nm : String), (Cond.fieldLink own idx ref nm ds ∈ jq_G ∨ ∃ host, Cond.fieldLinkNest own idx ref nm ds host ∈ jq_N) ∧ (ref = dcl ∨ Cond.sameField ref dcl nm ds ∈ jq_G) ∧
  ∀ ci ∈ cs, ∃ (C : String) (T : u_T) (N : Nat) (ty : Nat → FieldType), jq_CF ci C T N ty ∧ k < N ∧ T k = (dcl, nm, ds, fin)
section JQ
variable {p : Program} {l : Launch} {e : Env} {R : Room} {s : State} {m : MethodId} {args : Array Value} {below : List Frame} {meth : Method} {c : Code} {H : Heap} {locs : List Loc} {cells slots : Nat} {Q : State → Prop} {cc : ByteArray} {nL : Nat} {own : String} {D : va_G} {ct : Nat → ClassId} {bs pc : Nat} {ls : Array Slot} {rest : List Value} {h : jq_H} {ρ : Type} {res : ρ}
theorem jq_rf (C : jq_C p s m args c cc nL own D ct bs) (X : jq_X bs D ct s.heap h H locs) {idx : Nat} {cs : List Nat} {k : Nat} {dcl ds : String} {fin : Bool} (F : jq_FS own idx cs k dcl ds fin) {a : Nat} {v : Value} (hf : jq_f cs k h a = some v) (hdg : decode cc pc = .ok (.getfield idx, 3))
    (kk : W p l e R s m args below meth c H locs cells slots Q (F0 m (pc + 3) ls (v :: rest))) : W p l e R s m args below meth c H locs cells slots Q (F0 m pc ls (.ref a :: rest)) := by
  obtain ⟨hx, hb, -, hown, hts, hK, hN, -⟩ := C
  unfold jq_f at hf
  split at hf
  · rename_i o ho
    split at hf
    · rename_i hm
      obtain ⟨ref, nm, hlk, hsm, hci⟩ := F
      obtain ⟨C0, T, N, ty, ⟨hc, hin, -, -⟩, hk, hT⟩ := hci _ hm
      have hat := (X.1.2 a _ ho).2
      have hP := jq_one hat
      have hsame : ∀ x, s.fieldFound? (T k).1 (T k).2.1 (T k).2.2.1 = some x → s.fieldFound? ref (T k).2.1 (T k).2.2.1 = some x := by
        rw [hT]
        rcases hsm with rfl | hsm
        · exact fun _ q => q
        · exact fun x q => u_same (hts _ hsm) x q
      rcases hlk with hlk | ⟨host, hlk⟩
      · exact va_get (D := D) (ci := o.1) (fs := o.2) hx hb hts hin hown hK hP 0 rfl hc k hk (by rw [hT]; exact hts _ hlk) hsame hf hdg kk
      · exact va_getN (D := D) (ci := o.1) (fs := o.2) hx hb hts hin hown hK hP 0 rfl hc k hk (by rw [hT]; exact va_Nw.use rfl (hN _ hlk)) hsame hf hdg kk
    · cases hf
  · cases hf
theorem jq_rgI (C : jq_C p s m args c cc nL own D ct bs) (X : jq_X bs D ct s.heap h H locs) {idx : Nat} {cs : List Nat} {k : Nat} {dcl ds : String} {fin : Bool} (F : jq_FS own idx cs k dcl ds fin) {a : Nat} {K : Int32 → Option ρ} (he : (jq_gI cs k h a).bind K = some res) (hdg : decode cc pc = .ok (.getfield idx, 3))
    (kk : ∀ x, K x = some res → W p l e R s m args below meth c H locs cells slots Q (F0 m (pc + 3) ls (.int x :: rest))) : W p l e R s m args below meth c H locs cells slots Q (F0 m pc ls (.ref a :: rest)) := by
  obtain ⟨x, h1, h2⟩ := jq_b he
  unfold jq_gI at h1
  split at h1
  · rename_i y hy
    cases h1
    exact jq_rf C X F hy hdg (kk _ h2)
  · cases h1
theorem jq_rgR (C : jq_C p s m args c cc nL own D ct bs) (X : jq_X bs D ct s.heap h H locs) {idx : Nat} {cs : List Nat} {k : Nat} {dcl ds : String} {fin : Bool} (F : jq_FS own idx cs k dcl ds fin) {a : Nat} {K : Nat → Option ρ} (he : (jq_gR cs k h a).bind K = some res) (hdg : decode cc pc = .ok (.getfield idx, 3))
    (kk : ∀ x, K x = some res → W p l e R s m args below meth c H locs cells slots Q (F0 m (pc + 3) ls (.ref x :: rest))) : W p l e R s m args below meth c H locs cells slots Q (F0 m pc ls (.ref a :: rest)) := by
  obtain ⟨x, h1, h2⟩ := jq_b he
  unfold jq_gR at h1
  split at h1
  · rename_i y hy
    cases h1
    exact jq_rf C X F hy hdg (kk _ h2)
  · cases h1
theorem jq_rp (C : jq_C p s m args c cc nL own D ct bs) (X : jq_X bs D ct s.heap h H locs) {idx : Nat} {cs : List Nat} {k : Nat} {dcl ds : String} (F : jq_FS own idx cs k dcl ds false) {a : Nat} {v : Value} {ty : FieldType} (hd : parseFieldDescriptor ds = some ty) (hn : narrow ty v = v) (hfit : fits ty v = true) {K : jq_H → Option ρ} (he : (jq_p cs k h a v).bind K = some res) (hdg : decode cc pc = .ok (.putfield idx, 3))
    (kk : ∀ h1 H1 locs1, K h1 = some res → jq_X bs D ct s.heap h1 H1 locs1 → W p l e R s m args below meth c H1 locs1 cells slots Q (F0 m (pc + 3) ls rest)) : W p l e R s m args below meth c H locs cells slots Q (F0 m pc ls (v :: .ref a :: rest)) := by
  obtain ⟨hx, hb, -, hown, hts, hK, hN, -⟩ := C
  obtain ⟨h1, e1, e2⟩ := jq_b he
  unfold jq_p at e1
  split at e1
  · rename_i o ho
    split at e1
    · rename_i hm
      cases e1
      obtain ⟨ref, nm, hlk, hsm, hci⟩ := F
      obtain ⟨C0, T, N, ty0, ⟨hc, hin, hty, hnm⟩, hk, hT⟩ := hci _ hm.1
      obtain ⟨hbs, r, hr0, cell, q1, q2, q3, q4⟩ := X.1.2 a _ ho
      have hap := va_apart (own := own) hts hin ty0 hty hnm hK hc
      have hr : r = (C0, T, N) := Option.some.inj (hr0.symm.trans hc)
      subst hr
      obtain ⟨hS, hfc, kC, hkC, hkind⟩ := hK.1 o.1 _ hc
      obtain ⟨cf, kf, fi, f, hi, hsl⟩ := hS k hk
      have hlay := hts _ (hin _ (u_in_lay hk))
      unfold u_lay at hlay
      rw [if_neg (by rw [hT]; exact Bool.false_ne_true)] at hlay
      have hst := (u_facts hfc hkC (u_lays hts hin hk) hi).1
      have h6 := u_store hfc hkC hkind hlay hi (by rw [hT]; exact hd) hn hfit
      have hsame : ∀ x, s.fieldFound? (T k).1 (T k).2.1 (T k).2.2.1 = some x → s.fieldFound? ref (T k).2.1 (T k).2.2.1 = some x := by
        rw [hT]
        rcases hsm with rfl | hsm
        · exact fun _ q => q
        · exact fun x q => u_same (hts _ hsm) x q
      have fin : ∀ H' : Heap, H'[a]? = some (cell.setSlot f.slot v) → H'.size = H.size → (∀ q, q ≠ a → H'[q]? = H[q]?) → W p l e R s m args below meth c H' (locs ++ [⟨a, f.slot⟩]) cells slots Q (F0 m (pc + 3) ls rest) := by
        intro H' g1 g2 g3
        rw [hsl] at g1 ⊢
        exact kk _ H' _ e2 ⟨X.1.set ho ⟨_, hc, t_OB.to (V := updV (vp_V o.2) k v) ⟨_, g1, q2, q3, t_set q4 hap hk v⟩ (fun j _ => vp_updV_set hm.2 v j)⟩ g2 g3, X.2.put g2 g3 hbs⟩
      rcases hlk with hlk | ⟨host, hlk⟩
      · exact W.putK hx hb (f := f) ⟨hown, hts _ hlk, ⟨_, _, _, by have := hsame _ hi; rw [hT] at this; exact this⟩, hst⟩ (by rw [q2]; exact h6) q1 q3 (by rw [hsl]; exact k2_hasslot (q4 k hk)) rfl rfl hdg fin
      · exact va_WputK hx hb (f := f) hown (va_Nw.use rfl (hN _ hlk)) (by have := hsame _ hi; rw [hT] at this; exact this) hst (by rw [q2]; exact h6) q1 q3 (by rw [hsl]; exact k2_hasslot (q4 k hk)) rfl rfl hdg fin
    · cases e1
  · cases e1
/-- a final field, in a constructor of the class that declares it -/
theorem jq_rpF (C : jq_C p s m args c cc nL own D ct bs) (X : jq_X bs D ct s.heap h H locs) {idx : Nat} {cs : List Nat} {k : Nat} {dcl ds : String} (F : jq_FS own idx cs k dcl ds true) (hin2 : meth.name = "<init>") (hdecl : dcl = own) {a : Nat} {v : Value} {ty : FieldType} (hd : parseFieldDescriptor ds = some ty) (hn : narrow ty v = v) (hfit : fits ty v = true) {K : jq_H → Option ρ} (he : (jq_p cs k h a v).bind K = some res) (hdg : decode cc pc = .ok (.putfield idx, 3))
    (kk : ∀ h1 H1 locs1, K h1 = some res → jq_X bs D ct s.heap h1 H1 locs1 → W p l e R s m args below meth c H1 locs1 cells slots Q (F0 m (pc + 3) ls rest)) : W p l e R s m args below meth c H locs cells slots Q (F0 m pc ls (v :: .ref a :: rest)) := by
  obtain ⟨hx, hb, -, hown, hts, hK, hN, -⟩ := C
  obtain ⟨h1, e1, e2⟩ := jq_b he
  unfold jq_p at e1
  split at e1
  · rename_i o ho
    split at e1
    · rename_i hm
      cases e1
      obtain ⟨ref, nm, hlk, hsm, hci⟩ := F
      obtain ⟨C0, T, N, ty0, ⟨hc, hin, hty, hnm⟩, hk, hT⟩ := hci _ hm.1
      obtain ⟨hbs, r, hr0, cell, q1, q2, q3, q4⟩ := X.1.2 a _ ho
      have hap := va_apart (own := own) hts hin ty0 hty hnm hK hc
      have hr : r = (C0, T, N) := Option.some.inj (hr0.symm.trans hc)
      subst hr
      obtain ⟨hS, hfc, kC, hkC, hkind⟩ := hK.1 o.1 _ hc
      obtain ⟨cf, kf, fi, f, hi, hsl⟩ := hS k hk
      have hlay := hts _ (hin _ (u_in_lay hk))
      unfold u_lay at hlay
      rw [if_pos (by rw [hT])] at hlay
      have hst := (u_facts hfc hkC (u_lays hts hin hk) hi).1
      have hcf : m.cls = cf := by
        obtain ⟨_, _, c', _, _, _, -, -, hf', -, -, -, hown2, -⟩ := Cond.laysFinal_spec hlay
        have e1 : c' = cf := by have := hi.symm.trans hf'; simp at this; exact this.1.symm
        rw [hT, hdecl] at hown2
        rw [← e1]; exact Option.some.inj (hown.symm.trans hown2)
      have h6 := u_fits hfc hkC hkind (Or.inr hlay) hi (by rw [hT]; exact hd) hn hfit
      have hsame : ∀ x, s.fieldFound? (T k).1 (T k).2.1 (T k).2.2.1 = some x → s.fieldFound? ref (T k).2.1 (T k).2.2.1 = some x := by
        rw [hT]
        rcases hsm with rfl | hsm
        · exact fun _ q => q
        · exact fun x q => u_same (hts _ hsm) x q
      have fin : ∀ H' : Heap, H'[a]? = some (cell.setSlot f.slot v) → H'.size = H.size → (∀ q, q ≠ a → H'[q]? = H[q]?) → W p l e R s m args below meth c H' (locs ++ [⟨a, f.slot⟩]) cells slots Q (F0 m (pc + 3) ls rest) := by
        intro H' g1 g2 g3
        rw [hsl] at g1 ⊢
        exact kk _ H' _ e2 ⟨X.1.set ho ⟨_, hc, t_OB.to (V := updV (vp_V o.2) k v) ⟨_, g1, q2, q3, t_set q4 hap hk v⟩ (fun j _ => vp_updV_set hm.2 v j)⟩ g2 g3, X.2.put g2 g3 hbs⟩
      rcases hlk with hlk | ⟨host, hlk⟩
      · exact W.putFinK hx hb hown (hts _ hlk) (by have := hsame _ hi; rw [hT] at this; exact this) hst hcf hin2 (by rw [q2]; exact h6) q1 q3 (by rw [hsl]; exact k2_hasslot (q4 k hk)) rfl rfl hdg fin
      · refine va_Wputf hx hb hown (va_Nw.use rfl (hN _ hlk)) (by have := hsame _ hi; rw [hT] at this; exact this) hst (Or.inr ⟨hcf, hin2⟩) q1 (by rw [q3]; exact fun h => by cases h) (by rw [hsl]; exact k2_hasslot (q4 k hk)) h6.1 (by rw [q3, q2]; exact h6.2) rfl rfl hdg ?_
        have ha : a < H.size := (Array.getElem?_eq_some_iff.mp q1).1
        exact fin _ (by simp [Array.getElem?_setIfInBounds, ha]) (by simp) (fun q hq => by simp [Array.getElem?_setIfInBounds, Ne.symm hq])
    · cases e1
  · cases e1
end JQ
end
section
section JR
variable {p : Program} {l : Launch} {e : Env} {R : Room} {s : State} {m : MethodId} {args : Array Value} {below : List Frame} {meth : Method} {c : Code} {H : Heap} {locs : List Loc} {cells slots : Nat} {Q : State → Prop} {cc : ByteArray} {nL : Nat} {own : String} {D : va_G} {ct : Nat → ClassId} {bs pc : Nat} {ls : Array Slot} {rest : List Value} {h : jq_H} {ρ : Type} {res : ρ}
/-! ===== arrays ===== -/
theorem jq_rldI (C : jq_C p s m args c cc nL own D ct bs) (X : jq_X bs D ct s.heap h H locs) {a : Nat} {i : Int32} {K : Int32 → Option ρ} (he : (jq_ldI 0 h a i).bind K = some res) (hdg : decode cc pc = .ok (.iaload, 1))
    (kk : ∀ x, K x = some res → W p l e R s m args below meth c H locs cells slots Q (F0 m (pc + 1) ls (.int x :: rest))) : W p l e R s m args below meth c H locs cells slots Q (F0 m pc ls (.int i :: .ref a :: rest)) := by
  obtain ⟨hx, hb, -, -, -, hK, -, -⟩ := C
  obtain ⟨x, h1, h2⟩ := jq_b he
  unfold jq_ldI at h1
  split at h1
  · rename_i t' n f ho
    split at h1
    · rename_i hm
      obtain ⟨rfl, hin⟩ := hm
      cases h1
      exact va_iald hx hb hK (jq_one (X.1.2 a _ ho).2) 0 0 rfl rfl hin hdg (kk _ h2)
    · cases h1
  · cases h1
theorem jq_rldZ (C : jq_C p s m args c cc nL own D ct bs) (X : jq_X bs D ct s.heap h H locs) {a : Nat} {i : Int32} {K : Int32 → Option ρ} (he : (jq_ldI 1 h a i).bind K = some res) (hdg : decode cc pc = .ok (.baload, 1))
    (kk : ∀ x, K x = some res → W p l e R s m args below meth c H locs cells slots Q (F0 m (pc + 1) ls (.int x :: rest))) : W p l e R s m args below meth c H locs cells slots Q (F0 m pc ls (.int i :: .ref a :: rest)) := by
  obtain ⟨hx, hb, -, -, -, hK, -, -⟩ := C
  obtain ⟨x, h1, h2⟩ := jq_b he
  unfold jq_ldI at h1
  split at h1
  · rename_i t' n f ho
    split at h1
    · rename_i hm
      obtain ⟨rfl, hin⟩ := hm
      cases h1
      exact va_zald hx hb hK (jq_one (X.1.2 a _ ho).2) 0 1 rfl rfl hin hdg (kk _ h2)
    · cases h1
  · cases h1
theorem jq_rstI (C : jq_C p s m args c cc nL own D ct bs) (X : jq_X bs D ct s.heap h H locs) {a : Nat} {i x : Int32} {K : jq_H → Option ρ} (he : (jq_stI h a i x).bind K = some res) (hdg : decode cc pc = .ok (.iastore, 1))
    (kk : ∀ h1 H1 locs1, K h1 = some res → jq_X bs D ct s.heap h1 H1 locs1 → W p l e R s m args below meth c H1 locs1 cells slots Q (F0 m (pc + 1) ls rest)) : W p l e R s m args below meth c H locs cells slots Q (F0 m pc ls (.int x :: .int i :: .ref a :: rest)) := by
  obtain ⟨hx, hb, -, -, -, hK, -, -⟩ := C
  obtain ⟨h1, e1, e2⟩ := jq_b he
  unfold jq_stI at e1
  split at e1
  · rename_i t' n f ho
    split at e1
    · rename_i hm
      obtain ⟨rfl, hin⟩ := hm
      cases e1
      obtain ⟨hbs, hcell⟩ := X.1.2 a _ ho
      refine W.iast hx hb hcell ((hK.2 0 _ rfl).1 n (fun j => .int (f j))) (fun q => by cases q) (by show ¬ (i < 0 ∨ (arrV _ _ _).slots.size ≤ _); rw [arrV_size]; exact hin) rfl rfl hdg fun H1 g1 z oq => ?_
      refine kk _ H1 _ e2 ⟨X.1.set ho ?_ z oq, X.2.put z oq hbs⟩
      show H1[a]? = some (vp_cell _ _)
      rw [g1]
      rw [vp_cell_i, vp_cell_i, arrV_store]
      congr 2
      funext q
      by_cases hq : q = i.toNatClampNeg
      · subst hq
        simp [updV, upd]
      · simp [updV, upd, hq]
    · cases e1
  · cases e1
theorem jq_nar {x : Int32} (h : x = 0 ∨ x = 1) : narrow .boolean (.int x) = .int x := by
  rcases h with rfl | rfl <;> rfl
theorem jq_rstZ (C : jq_C p s m args c cc nL own D ct bs) (X : jq_X bs D ct s.heap h H locs) {a : Nat} {i x : Int32} {K : jq_H → Option ρ} (he : (jq_stZ h a i x).bind K = some res) (hdg : decode cc pc = .ok (.bastore, 1))
    (kk : ∀ h1 H1 locs1, K h1 = some res → jq_X bs D ct s.heap h1 H1 locs1 → W p l e R s m args below meth c H1 locs1 cells slots Q (F0 m (pc + 1) ls rest)) : W p l e R s m args below meth c H locs cells slots Q (F0 m pc ls (.int x :: .int i :: .ref a :: rest)) := by
  obtain ⟨hx, hb, -, -, -, hK, -, -⟩ := C
  obtain ⟨h1, e1, e2⟩ := jq_b he
  unfold jq_stZ at e1
  split at e1
  · rename_i t' n f ho
    split at e1
    · rename_i hm
      obtain ⟨rfl, hin, hz⟩ := hm
      cases e1
      obtain ⟨hbs, hcell⟩ := X.1.2 a _ ho
      refine W.zast hx hb hcell ((hK.2 1 _ rfl).1 n (fun j => .int (f j))) (fun q => by cases q) (by show ¬ (i < 0 ∨ (arrV _ _ _).slots.size ≤ _); rw [arrV_size]; exact hin) rfl rfl hdg fun H1 g1 z oq => ?_
      refine kk _ H1 _ e2 ⟨X.1.set ho ?_ z oq, X.2.put z oq hbs⟩
      show H1[a]? = some (vp_cell _ _)
      rw [g1, jq_nar hz]
      rw [vp_cell_i, vp_cell_i, arrV_store]
      congr 2
      funext q
      by_cases hq : q = i.toNatClampNeg
      · subst hq
        simp [updV, upd]
      · simp [updV, upd, hq]
    · cases e1
  · cases e1
theorem jq_tyR {ct : Nat → ClassId} {t : Nat} {C : String} (hC : (t = 2 ∧ C = "WayGuesses$Guesser") ∨ (t = 3 ∧ C = "WayGuesses$Learnt")) : (jq_tys ct)[t]? = some (ct t, .object C) := by
  rcases hC with ⟨rfl, rfl⟩ | ⟨rfl, rfl⟩ <;> rfl
theorem jq_rldR (C : jq_C p s m args c cc nL own D ct bs) (X : jq_X bs D ct s.heap h H locs) {t : Nat} {E : String} (hE : (t = 2 ∧ E = "WayGuesses$Guesser") ∨ (t = 3 ∧ E = "WayGuesses$Learnt")) {a : Nat} {i : Int32} {K : Option Nat → Option ρ} (he : (jq_ldR t h a i).bind K = some res) (hdg : decode cc pc = .ok (.aaload, 1))
    (kk : ∀ x, K x = some res → W p l e R s m args below meth c H locs cells slots Q (F0 m (pc + 1) ls (va_rf x :: rest))) : W p l e R s m args below meth c H locs cells slots Q (F0 m pc ls (.int i :: .ref a :: rest)) := by
  obtain ⟨hx, hb, -, -, -, hK, -, -⟩ := C
  obtain ⟨x, h1, h2⟩ := jq_b he
  unfold jq_ldR at h1
  split at h1
  · rename_i t' n f ho
    split at h1
    · rename_i hm
      obtain ⟨rfl, hin⟩ := hm
      cases h1
      exact va_aldq hx hb hK (jq_one (X.1.2 a _ ho).2) 0 t' rfl (jq_tyR hE) hin hdg (kk _ h2)
    · cases h1
  · cases h1
theorem jq_rldN (C : jq_C p s m args c cc nL own D ct bs) (X : jq_X bs D ct s.heap h H locs) {t : Nat} {E : String} (hE : (t = 2 ∧ E = "WayGuesses$Guesser") ∨ (t = 3 ∧ E = "WayGuesses$Learnt")) {a : Nat} {i : Int32} {K : Nat → Option ρ} (he : (jq_ldN t h a i).bind K = some res) (hdg : decode cc pc = .ok (.aaload, 1))
    (kk : ∀ x, K x = some res → W p l e R s m args below meth c H locs cells slots Q (F0 m (pc + 1) ls (.ref x :: rest))) : W p l e R s m args below meth c H locs cells slots Q (F0 m pc ls (.int i :: .ref a :: rest)) := by
  obtain ⟨x, h1, h2⟩ := jq_b he
  unfold jq_ldN at h1
  split at h1
  · rename_i q hq
    cases h1
    have hb : (jq_ldR t h a i).bind (fun o => if o = some x then some x else none) = some x := by rw [hq]; simp
    refine jq_rldR C X hE hb hdg (fun y hy => ?_)
    split at hy
    · rename_i hyx
      rw [hyx]
      exact kk x h2
    · cases hy
  · cases h1
theorem jq_rstR (C : jq_C p s m args c cc nL own D ct bs) (X : jq_X bs D ct s.heap h H locs) {t : Nat} {cs : List Nat} {E : String} (hE : (t = 2 ∧ E = "WayGuesses$Guesser") ∨ (t = 3 ∧ E = "WayGuesses$Learnt")) (hcs : ∀ ci ∈ cs, ∃ r : vw_C, vwCl[ci]? = some r ∧ (r.1 = E ∨ Cond.castable r.1 E ∈ jq_N)) {a v : Nat} {i : Int32} {K : jq_H → Option ρ} (he : (jq_stR t cs h a i v).bind K = some res) (hdg : decode cc pc = .ok (.aastore, 1))
    (kk : ∀ h1 H1 locs1, K h1 = some res → jq_X bs D ct s.heap h1 H1 locs1 → W p l e R s m args below meth c H1 locs1 cells slots Q (F0 m (pc + 1) ls rest)) : W p l e R s m args below meth c H locs cells slots Q (F0 m pc ls (.ref v :: .int i :: .ref a :: rest)) := by
  obtain ⟨hx, hb, -, -, -, hK, hN, -⟩ := C
  obtain ⟨h1, e1, e2⟩ := jq_b he
  unfold jq_stR at e1
  split at e1
  · rename_i t' n f o ho hv
    split at e1
    · rename_i hm
      obtain ⟨rfl, hin, hmem⟩ := hm
      cases e1
      have hlt : i.toNatClampNeg < n := Nat.not_le.mp fun q => hin (Or.inr q)
      have h0 : ¬ i < 0 := fun q => hin (Or.inl q)
      obtain ⟨hbs, hcell⟩ := X.1.2 a _ ho
      obtain ⟨-, r', hr', cellV, g1, g2, g3, -⟩ := X.1.2 v _ hv
      obtain ⟨r, hr, hca⟩ := hcs _ hmem
      have hcls := (hK.1 o.1 r hr).2
      obtain ⟨kA, comp, k1, k2, k3, -⟩ := (hK.2 t' _ (jq_tyR hE)).2
      obtain ⟨kE, hkE, -⟩ := Vm.findClass_spec k3
      obtain ⟨kC, hkC, -⟩ := id hcls.2
      have hasg : s.vm.assignable (D.1 o.1) comp = true := by
        rcases hca with hca | hca
        · have : comp = D.1 o.1 := Option.some.inj (k3.symm.trans (by rw [← hca]; exact hcls.1))
          rw [this]
          exact va_assign hcls
        · obtain ⟨c0, t1, f1, f2, f3⟩ := Cond.castable_spec (va_Nw.use (A := args) rfl (hN _ hca))
          cases hcls.1.symm.trans f1
          cases k3.symm.trans f2
          exact f3
      refine W.aast hx hb hcell (fun q h => by cases h) (fun h => by cases h) k1 k2 rfl hkE ⟨h0, by show _ < (arrV _ _ _).slots.size; rw [arrV_size]; exact hlt⟩ g1 (fun q h => by rw [g3] at h; cases h) (by rw [g2]; exact hkC) (by rw [g2]; exact hasg) rfl rfl hdg fun H1 g4 z oq => ?_
      refine kk _ H1 _ e2 ⟨X.1.set ho ?_ z oq, X.2.put z oq hbs⟩
      show H1[a]? = some (vp_cell _ _)
      rw [g4]
      rw [vp_cell_q, vp_cell_q, arrV_store]
      congr 2
      funext q
      by_cases hq : q = i.toNatClampNeg
      · subst hq
        simp [updV, va_up, va_rf]
      · simp [updV, va_up, hq]
    · cases e1
  · cases e1
theorem jq_rlen (C : jq_C p s m args c cc nL own D ct bs) (X : jq_X bs D ct s.heap h H locs) {a : Nat} {K : Int32 → Option ρ} (he : (jq_len h a).bind K = some res) (hdg : decode cc pc = .ok (.arraylength, 1))
    (kk : ∀ x, K x = some res → W p l e R s m args below meth c H locs cells slots Q (F0 m (pc + 1) ls (.int x :: rest))) : W p l e R s m args below meth c H locs cells slots Q (F0 m pc ls (.ref a :: rest)) := by
  obtain ⟨hx, hb, -, -, -, hK, -, -⟩ := C
  obtain ⟨x, h1, h2⟩ := jq_b he
  unfold jq_len at h1
  split at h1
  · rename_i y ho
    split at h1
    · rename_i hm
      cases h1
      have hq : ∃ ty, (jq_tys ct)[y.1]? = some (ct y.1, ty) := by
        rcases (show y.1 = 0 ∨ y.1 = 1 ∨ y.1 = 2 ∨ y.1 = 3 by omega) with q | q | q | q <;> rw [q] <;> exact ⟨_, rfl⟩
      obtain ⟨ty, hty⟩ := hq
      exact va_alen hx hb hK (jq_one (X.1.2 a _ ho).2) 0 y.1 rfl hty rfl hdg (kk _ h2)
    · cases h1
  · cases h1
theorem jq_rnewI (C : jq_C p s m args c cc nL own D ct bs) (X : jq_X bs D ct s.heap h H locs) {t B : Nat} {aty : ArrayType} {n : Int32} (hty : (t = 0 ∧ newarray.typeOf aty = .int) ∨ (t = 1 ∧ newarray.typeOf aty = .boolean)) (harr : Cond.arrayClass (newarray.typeOf aty) ∈ jq_G) (hB : B ≤ 100000000) {K : Nat × jq_H → Option ρ} (he : (jq_newI t B h n).bind K = some res) (hcells : cells + 1 ≤ R.cells) (hslots : slots + B ≤ R.slots) (hdg : decode cc pc = .ok (.newarray aty, 2))
    (kk : ∀ z H1, K z = some res → jq_X bs D ct s.heap z.2 H1 locs → W p l e R s m args below meth c H1 locs (cells + 1) (slots + B) Q (F0 m (pc + 2) ls (.ref z.1 :: rest))) : W p l e R s m args below meth c H locs cells slots Q (F0 m pc ls (.int n :: rest)) := by
  obtain ⟨hx, hb, -, -, hts, hK, -, hbs0⟩ := C
  obtain ⟨z, e1, e2⟩ := jq_b he
  unfold jq_newI at e1
  split at e1
  · cases e1
  · rename_i hn
    have hn0 : ¬ n < 0 := fun q => hn (Or.inl q)
    have hnB : n.toNatClampNeg ≤ B := Nat.not_lt.mp fun q => hn (Or.inr q)
    cases e1
    have hbs : bs ≤ h.1 := by rw [← X.1.1]; exact Nat.le_trans hbs0 X.2.1
    have hcb : componentBytes (newarray.typeOf aty) ≤ 4 := by
      rcases hty with ⟨-, q⟩ | ⟨-, q⟩ <;> rw [q] <;> decide
    refine va_newaK hx hb (hts _ harr) rfl hdg rfl hn0 rfl (Nat.le_trans (Nat.mul_le_mul (Nat.le_trans hnB hB) hcb) (by decide)) hcells (by omega) X.1.1 fun H1 cA g1 z1 o1 hAr hNm => ?_
    refine W.widen (k := cells + 1) (n := slots + B) (Nat.le_refl _) (by omega) ?_
    refine kk _ H1 e2 ⟨X.1.push hbs ?_ z1 o1, Nat.le_trans X.2.1 (by rw [z1, ← X.1.1]; omega), fun q q1 q2 => (o1 q (by rw [← X.1.1]; exact Nat.lt_of_lt_of_le q1 X.2.1)).trans (X.2.2.1 q q1 q2), X.2.2.2⟩
    show H1[h.1]? = some (vp_cell _ _)
    rw [g1, vp_cell_i]
    have hcA : cA = ct t := by
      rcases hty with ⟨rfl, q⟩ | ⟨rfl, q⟩
      · have h5 := (hK.2 0 _ rfl).2
        rw [q] at hNm
        exact Option.some.inj (hNm.symm.trans h5)
      · have h5 := (hK.2 1 _ rfl).2
        rw [q] at hNm
        exact Option.some.inj (hNm.symm.trans h5)
    rw [hcA]
    rcases hty with ⟨-, q⟩ | ⟨-, q⟩ <;> rw [q] <;> rfl
theorem jq_rnewR (C : jq_C p s m args c cc nL own D ct bs) (X : jq_X bs D ct s.heap h H locs) {t B idx : Nat} {E : String} {n : Int32} (hE : (t = 2 ∧ E = "WayGuesses$Guesser") ∨ (t = 3 ∧ E = "WayGuesses$Learnt")) (hcl : Cond.classLink own idx E ∈ jq_G) (hov : Cond.arrayOver (.object E) ∈ jq_N) (hB : B ≤ 100000000) {K : Nat × jq_H → Option ρ} (he : (jq_newR t B h n).bind K = some res) (hcells : cells + 1 ≤ R.cells) (hslots : slots + B ≤ R.slots) (hdg : decode cc pc = .ok (.anewarray idx, 3))
    (kk : ∀ z H1, K z = some res → jq_X bs D ct s.heap z.2 H1 locs → W p l e R s m args below meth c H1 locs (cells + 1) (slots + B) Q (F0 m (pc + 3) ls (.ref z.1 :: rest))) : W p l e R s m args below meth c H locs cells slots Q (F0 m pc ls (.int n :: rest)) := by
  obtain ⟨hx, hb, -, hown, hts, hK, hN, hbs0⟩ := C
  obtain ⟨z, e1, e2⟩ := jq_b he
  unfold jq_newR at e1
  split at e1
  · cases e1
  · rename_i hn
    have hn0 : ¬ n < 0 := fun q => hn (Or.inl q)
    have hnB : n.toNatClampNeg ≤ B := Nat.not_lt.mp fun q => hn (Or.inr q)
    cases e1
    have hbs : bs ≤ h.1 := by rw [← X.1.1]; exact Nat.le_trans hbs0 X.2.1
    refine W.anew hx hb hown (hts _ hcl) (va_AO.use (hN _ hov)) rfl hdg rfl hn0 (by omega) hcells (by omega) fun cA kA comp f1 f2 f3 f4 => ?_
    refine W.widen (k := cells + 1) (n := slots + B) (Nat.le_refl _) (by omega) ?_
    generalize hH1 : H.push ({ cls := cA, slots := Array.replicate n.toNatClampNeg .null, vm := .none } : Cell) = H1
    have z1 : H1.size = H.size + 1 := by rw [← hH1, Array.size_push]
    have g1 : H1[H.size]? = some (arrV cA n.toNatClampNeg (fun _ => .null)) := by rw [← hH1, Array.getElem?_push_size, ← arrV_new]
    have o1 : ∀ q : Nat, q < H.size → H1[q]? = H[q]? := fun q hq => by rw [← hH1, Array.getElem?_push, if_neg (Nat.ne_of_lt hq)]
    have hcA : cA = ct t := by
      obtain ⟨_, _, -, -, -, h5⟩ := (hK.2 t _ (jq_tyR hE)).2
      exact Option.some.inj (f1.symm.trans h5)
    rw [X.1.1] at z1 g1 o1 ⊢
    refine kk (h.1, _) H1 e2 ⟨X.1.push hbs ?_ z1 o1, Nat.le_trans X.2.1 (by rw [z1, ← X.1.1]; omega), fun q q1 q2 => (o1 q (by rw [← X.1.1]; exact Nat.lt_of_lt_of_le q1 X.2.1)).trans (X.2.2.1 q q1 q2), X.2.2.2⟩
    show H1[h.1]? = some (vp_cell _ _)
    rw [g1, vp_cell_q, hcA]
    rfl
theorem jq_rnewO (C : jq_C p s m args c cc nL own D ct bs) (X : jq_X bs D ct s.heap h H locs) {ci idx : Nat} {E : String} {T : u_T} {N : Nat} {ty : Nat → FieldType} (F : jq_CF ci E T N ty) (hcl : Cond.classLink own idx E ∈ jq_G) (hinst : Cond.instantiable E N ∈ jq_G) (hini : Cond.initialized E ∈ jq_G) {fs : List Value} (hfs : ∀ j, j < N → defaultValue (ty j) = vp_V fs j) {K : Nat × jq_H → Option ρ} (he : K (jq_newO ci fs h) = some res) (hcells : cells + 1 ≤ R.cells) (hslots : slots + N ≤ R.slots) (hdg : decode cc pc = .ok (.new idx, 3))
    (kk : ∀ z H1, K z = some res → jq_X bs D ct s.heap z.2 H1 locs → W p l e R s m args below meth c H1 locs (cells + 1) (slots + N) Q (F0 m (pc + 3) ls (.ref z.1 :: rest))) : W p l e R s m args below meth c H locs cells slots Q (F0 m pc ls rest) := by
  obtain ⟨hx, hb, -, hown, hts, hK, hN, hbs0⟩ := C
  obtain ⟨hc, hin, hty, hnm⟩ := F
  have hKn := hK.1 ci _ hc
  have hbs : bs ≤ h.1 := by rw [← X.1.1]; exact Nat.le_trans hbs0 X.2.1
  refine W.newcK hx hb hown (hts _ hcl) (hts _ hinst) (hts _ hini) rfl hdg hcells hslots hKn.2.1 X.1.1 fun H1 kC hkC g1 z1 o1 => ?_
  refine kk (h.1, (h.1 + 1, va_up h.2 h.1 (some (.inr (ci, fs))))) H1 he ⟨X.1.push hbs ?_ z1 o1, Nat.le_trans X.2.1 (by rw [z1, ← X.1.1]; omega), fun q q1 q2 => (o1 q (by rw [← X.1.1]; exact Nat.lt_of_lt_of_le q1 X.2.1)).trans (X.2.2.1 q q1 q2), X.2.2.2⟩
  exact ⟨_, hc, (u_born ty hts hin hKn hkC g1 hty).to hfs⟩
theorem jq_rcpy (C : jq_C p s m args c cc nL own D ct bs) (X : jq_X bs D ct s.heap h H locs) {idx : Nat} (hsz : ls.size = nL) (hlink : Cond.methodLink own idx arraycopyName ∈ jq_G) (hnat : Cond.native arraycopyName ∈ jq_G) (hstat : Cond.static arraycopyName ∈ jq_G) (hini : Cond.initialized "java/lang/System" ∈ jq_G) {a0 a1 : Nat} {sp dp n : Int32} {K : jq_H → Option ρ} (he : (jq_cpy h a0 sp a1 dp n).bind K = some res)
    (hframes : 1 ≤ R.frames) (hlocals : (rest.map fun v => v.category).sum + (nativeFrameWords "java/lang/System" "arraycopy" 5 + 11) ≤ R.locals) (hdg : decode cc pc = .ok (.invokestatic idx, 3))
    (kk : ∀ h1 H1 locs1, K h1 = some res → jq_X bs D ct s.heap h1 H1 locs1 → W p l e R s m args below meth c H1 locs1 cells slots Q (F0 m (pc + 3) ls rest)) : W p l e R s m args below meth c H locs cells slots Q (F0 m pc ls (.int n :: .int dp :: .ref a1 :: .int sp :: .ref a0 :: rest)) := by
  obtain ⟨hx, hb, hml, hown, hts, hK, hN, -⟩ := C
  obtain ⟨h1, e1, e2⟩ := jq_b he
  unfold jq_cpy at e1
  split at e1
  · rename_i t0 n0 f t1 n1 g ha0 ha1
    split at e1
    · rename_i hm
      obtain ⟨rfl, rfl, c1, c2, c3, c4, c5⟩ := hm
      cases e1
      have hc0 : H[a0]? = some (vp_cell (ct 0) (n0, .inl f)) := (X.1.2 a0 _ ha0).2
      obtain ⟨hbs, hc1'⟩ := X.1.2 a1 _ ha1
      have hc1 : H[a1]? = some (vp_cell (ct 0) (n1, .inl g)) := hc1'
      have nn : ∀ z : Int32, ¬ z < 0 → z.toInt = (z.toNatClampNeg : Int) := by
        intro z hz
        have hz0 : (0 : Int) ≤ z.toInt := by
          have := Int32.not_lt.mp hz
          simpa using Int32.le_iff_toInt_le.mp this
        show z.toInt = ((z.toInt.toNat : Nat) : Int)
        omega
      intro T hT Xs
      obtain ⟨-, k0, hk0, cm0, hkk0⟩ := (hK.2 0 _ rfl).1 n0 (fun j => .int (f j))
      obtain ⟨-, k1, hk1, cm1, hkk1⟩ := (hK.2 0 _ rfl).1 n1 (fun j => .int (g j))
      obtain ⟨vm', X', step⟩ := Xs.arraycopy hx hown (hts _ hlink) (hts _ hnat) (hts _ hstat) (hts _ hini) (src := a0) (dst := a1) (cs := vp_cell (ct 0) (n0, .inl f)) (cd := vp_cell (ct 0) (n1, .inl g)) (srcPos := sp) (destPos := dp) (n := n) (by rw [hT]; exact hc0) (by rw [hT]; exact hc1)
        (fun _ h => by cases h) (fun _ h => by cases h) (fun h => by cases h) (fun h => by cases h) hk0 hk1 hkk0 hkk1 (by simp [show refKind FieldType.int = false from rfl]) c1 c2 c3
        (by rw [nn sp c1, nn n c3]; show ¬ _ > ((arrV (ct 0) n0 (fun j => .int (f j))).slots.size : Int); rw [arrV_size]; omega)
        (by rw [nn dp c2, nn n c3]; show ¬ _ > ((arrV (ct 0) n1 (fun j => .int (g j))).slots.size : Int); rw [arrV_size]; omega)
        (fun vm₁ _ i hi => by
          have e : (vp_cell (ct 0) (n0, .inl f)).slots.getD (sp.toNatClampNeg + i) .null = .int (f (sp.toNatClampNeg + i)) := by
            show (arrV (ct 0) n0 (fun j => .int (f j))).slots.getD _ _ = _
            rw [Array.getD_eq_getD_getElem?, arrV_read _ _ (by omega)]
            rfl
          refine ⟨?_, ?_⟩
          · rw [e]
            rfl
          · rw [e]
            exact trivial)
        (g := F0 m pc ls (.int n :: .int dp :: .ref a1 :: .int sp :: .ref a0 :: rest)) rfl (by rw [hml]; exact hsz) (rest := rest) rfl (by rw [hb]; exact hdg) hframes (by show 2 * 0 + _ + _ ≤ _; omega)
      have e1 : copied (vp_cell (ct 0) (n0, .inl f)) (vp_cell (ct 0) (n1, .inl g)) sp dp n = vp_cell (ct 0) (n1, .inl (va_cpy f g sp.toNatClampNeg dp.toNatClampNeg n.toNatClampNeg)) := va_copied (fun z => .int z) (ct 0) (ct 0) f g c4
      rw [e1] at X' step
      have hl : a1 < H.size := (Array.getElem?_eq_some_iff.mp hc1).1
      have hheap : ((T.setVm vm').setCell a1 (vp_cell (ct 0) (n1, .inl (va_cpy f g sp.toNatClampNeg dp.toNatClampNeg n.toNatClampNeg)))).heap = H.setIfInBounds a1 (vp_cell (ct 0) (n1, .inl (va_cpy f g sp.toNatClampNeg dp.toNatClampNeg n.toNatClampNeg))) := by rw [← hT]; rfl
      have oq : ∀ q : Nat, q ≠ a1 → (H.setIfInBounds a1 (vp_cell (ct 0) (n1, .inl (va_cpy f g sp.toNatClampNeg dp.toNatClampNeg n.toNatClampNeg))))[q]? = H[q]? := fun q hq => by simp [Array.getElem?_setIfInBounds, Ne.symm hq]
      obtain ⟨t, b1, b2⟩ := kk _ _ _ e2 ⟨X.1.set ha1 (show (H.setIfInBounds a1 _)[a1]? = some _ by simp [Array.getElem?_setIfInBounds, hl]) (by simp) oq, by simp; exact X.2.1, fun q g1 g2 => by
          rw [oq q (fun e => g2 (by rw [e]; exact hbs))]
          exact X.2.2.1 q g1 g2, fun q hq => by
          rcases List.mem_append.mp hq with h | h
          · exact X.2.2.2 q h
          · obtain ⟨z, -, hz⟩ := List.mem_map.mp h
            rw [← hz]
            exact hbs⟩ _ hheap X'
      exact ⟨t, step t b1, b2⟩
    · cases e1
  · cases e1
end JR
end
section
/-! ===== contracts over the abstract heap ===== -/
def jq_P (av : List Value) (bs : Nat) (D : va_G) (ct : Nat → ClassId) (h : jq_H) : Array Value → State → Prop := fun v U => v = av.toArray ∧ jq_W bs D ct h U.heap ∧ bs ≤ U.heap.size ∧ va_K D vwCl (jq_tys ct) U ∧ ∀ w ∈ jq_N, va_Nw w U
def jq_Qi (bs : Nat) (D : va_G) (ct : Nat → ClassId) (z : Int32 × jq_H) : Array Value → State → Outcome → State → Prop := va_Qi (S := Unit) (fun r _ => r = z.1) (fun _ t => jq_W bs D ct z.2 t.heap) (fun q => bs ≤ q)
def jq_Qv (bs : Nat) (D : va_G) (ct : Nat → ClassId) (z : jq_H) : Array Value → State → Outcome → State → Prop := va_Qv (S := Unit) (fun _ => True) (fun _ t => jq_W bs D ct z t.heap) (fun q => bs ≤ q)
def jq_Qr (bs : Nat) (D : va_G) (ct : Nat → ClassId) (z : Nat × jq_H) : Array Value → State → Outcome → State → Prop := va_Qr (S := Unit) (fun _ => True) (fun _ a t => a = z.1 ∧ jq_W bs D ct z.2 t.heap) (fun q => bs ≤ q)
def jq_M (l : Launch) (y : MethodName) (b : ByteArray) (nL : Nat) (ret : Option FieldType) (rm : Room) (P : Array Value → State → Prop) (Qc : Array Value → State → Outcome → State → Prop) (bs : Nat) : Prop := Met l y (Cond.code y b nL ret :: jq_G) rm P Qc rm.cells rm.slots (fun q => bs ≤ q)
theorem jq_start {l : Launch} {y : MethodName} {b : ByteArray} {nL : Nat} {ret : Option FieldType} {rm : Room} {av : List Value} {bs : Nat} {D : va_G} {ct : Nat → ClassId} {h : jq_H} {Qc : Array Value → State → Outcome → State → Prop} (hy : plainName y.cls = true) (hlen : (lg_sl av).length ≤ nL)
    (body : ∀ (p : Program) (e : Env) (s : State) (m : MethodId) (below : List Frame) (meth : Method) (c : Code) (ls : Array Slot), jq_C p s m av.toArray c b nL y.cls D ct bs → meth.sig.returnType = ret → meth.locks = false → meth.name = y.name → lv_has ls nL (lv_args 0 av) → jq_X bs D ct s.heap h s.heap [] →
      W p l e rm s m av.toArray below meth c s.heap [] 0 0 (MQ below Qc av.toArray s rm.cells rm.slots (fun q => bs ≤ q)) (F0 m 0 ls [])) : jq_M l y b nL ret rm (jq_P av bs D ct h) Qc bs := by
  refine Met.ofW (cc := b) (maxL := nL) (ret := ret) hy rfl ?_
  intro p e s m args below meth c s₁ B hml hv
  obtain ⟨rfl, hW, hbs, hK, hN⟩ := hv
  have hts := atoms_spec (ws := Cond.code y b nL ret :: jq_G) B.pre
  have hl := lv_entry av (n := nL) hlen
  rw [lg_entry_eq]
  generalize (lg_sl av ++ List.replicate (nL - (lg_sl av).length) Slot.unset).toArray = ls at hl ⊢
  exact body p e s m below meth c ls ⟨B.exec, B.bytes, hml, findClass_of_methodNamed B.named, fun w h => hts w (List.mem_cons_of_mem _ h), hK, hN, hbs⟩ B.returns B.notSynchronized (name_of_methodNamed B.named B.method).1 hl ⟨hW, va_S.rf⟩
theorem jq_blind {av : List Value} {bs : Nat} {D : va_G} {ct : Nat → ClassId} {h : jq_H} : FrameBlind (jq_P av bs D ct h) := fun a U g mk q => ⟨q.1, q.2.1, q.2.2.1, va_K.moved (u := U) (U := U.calling g mk a) (Vm.Alike.refl U.vm) q.2.2.2.1, jq_Nsame (s := U) (U := U.calling g mk a) rfl q.2.2.2.2⟩
/-! ===== facts of methods and of call sites ===== -/
def jq_MF (y : MethodName) (b : ByteArray) (nL : Nat) (ret : Option FieldType) (n : Nat) : Prop := Cond.code y b nL ret ∈ jq_G ∧ Cond.initialized y.cls ∈ jq_G ∧ (y.cls ≠ "java/lang/invoke/MethodHandle" ∧ y.cls ≠ "java/lang/invoke/VarHandle" ∧ (parseMethodDescriptor y.desc).map (fun d => d.parameters.length) = some n)
def jq_LK (own : String) (idx : Nat) (y : MethodName) : Prop := Cond.methodLink own idx y ∈ jq_G ∨ ∃ host, Cond.methodLinkNest own idx y host ∈ jq_N
/-- a class by its number, as a receiver's -/
def jq_RC (ci : Nat) (C : String) : Prop := ∃ (T : u_T) (N : Nat), vwCl[ci]? = some (C, T, N)
theorem jq_ite {β : Type} {c : Prop} {i : Decidable c} {x : Option β} {z : β} (h : (@ite _ c i x none) = some z) : c ∧ x = some z := by
  by_cases hc : c
  · rw [if_pos hc] at h; exact ⟨hc, h⟩
  · rw [if_neg hc] at h; cases h
section JC
variable {p : Program} {l : Launch} {e : Env} {R : Room} {s : State} {m : MethodId} {args : Array Value} {below : List Frame} {meth : Method} {c : Code} {H : Heap} {locs : List Loc} {cells slots : Nat} {Q : State → Prop} {cc : ByteArray} {nL : Nat} {own : String} {D : va_G} {ct : Nat → ClassId} {bs pc : Nat} {ls : Array Slot} {rest st : List Value} {h : jq_H}
/-! ===== returns ===== -/
theorem jq_iret (C : jq_C p s m args c cc nL own D ct bs) (X : jq_X bs D ct s.heap h H locs) (hr : meth.sig.returnType = some .int) (hlk : meth.locks = false) {v : Int32} {res : Int32 × jq_H} (he : some (v, h) = some res) {mc ms : Nat} (hc : cells ≤ mc) (hs : slots ≤ ms) (hdg : decode cc pc = .ok (.ireturn, 1)) :
    W p l e R s m args below meth c H locs cells slots (MQ below (jq_Qi bs D ct res) args s mc ms (fun q => bs ≤ q)) (F0 m pc ls [.int v]) := by
  cases he
  refine W.widen hc hs ?_
  exact W.iret C.1 C.2.1 hr (fun t ht hW => ⟨⟨v, (), rfl, rfl, by show jq_W bs D ct h t.heap; rw [ht]; exact X.1⟩, X.2.F ht⟩) X.2.2.2 hdg hlk
/-- a boolean answer: 0 or 1 -/
def jq_z (v : Int32) (h : jq_H) : Option (Int32 × jq_H) := if v = 0 ∨ v = 1 then some (v, h) else none
theorem jq_zret (C : jq_C p s m args c cc nL own D ct bs) (X : jq_X bs D ct s.heap h H locs) (hr : meth.sig.returnType = some .boolean) (hlk : meth.locks = false) {v : Int32} {res : Int32 × jq_H} (he : jq_z v h = some res) {mc ms : Nat} (hc : cells ≤ mc) (hs : slots ≤ ms) (hdg : decode cc pc = .ok (.ireturn, 1)) :
    W p l e R s m args below meth c H locs cells slots (MQ below (jq_Qi bs D ct res) args s mc ms (fun q => bs ≤ q)) (F0 m pc ls [.int v]) := by
  obtain ⟨hv, he⟩ := jq_ite he
  cases he
  refine W.widen hc hs ?_
  exact W.zret C.1 C.2.1 hr (jq_nar hv) (fun t ht hW => ⟨⟨v, (), rfl, rfl, by show jq_W bs D ct h t.heap; rw [ht]; exact X.1⟩, X.2.F ht⟩) X.2.2.2 hdg hlk
theorem jq_vret (C : jq_C p s m args c cc nL own D ct bs) (X : jq_X bs D ct s.heap h H locs) (hr : meth.sig.returnType = none) (hlk : meth.locks = false) {res : jq_H} (he : some h = some res) {mc ms : Nat} (hc : cells ≤ mc) (hs : slots ≤ ms) (hdg : decode cc pc = .ok (.return_, 1)) :
    W p l e R s m args below meth c H locs cells slots (MQ below (jq_Qv bs D ct res) args s mc ms (fun q => bs ≤ q)) (F0 m pc ls []) := by
  cases he
  refine W.widen hc hs ?_
  exact W.vret C.1 C.2.1 hr (fun t ht hW => ⟨⟨(), rfl, trivial, by show jq_W bs D ct h t.heap; rw [ht]; exact X.1⟩, X.2.F ht⟩) X.2.2.2 hdg hlk
theorem jq_aret (C : jq_C p s m args c cc nL own D ct bs) (X : jq_X bs D ct s.heap h H locs) {E : String} (hr : meth.sig.returnType = some (.object E)) (hlk : meth.locks = false) {v : Nat} {res : Nat × jq_H} (he : some (v, h) = some res) {mc ms : Nat} (hc : cells ≤ mc) (hs : slots ≤ ms) (hdg : decode cc pc = .ok (.areturn, 1)) :
    W p l e R s m args below meth c H locs cells slots (MQ below (jq_Qr bs D ct res) args s mc ms (fun q => bs ≤ q)) (F0 m pc ls [.ref v]) := by
  cases he
  refine W.widen hc hs ?_
  exact W.aret C.1 C.2.1 hr (Or.inl ⟨_, rfl⟩) (Or.inr ⟨_, rfl⟩) (fun t ht hW => ⟨⟨(), v, rfl, trivial, rfl, by show jq_W bs D ct h t.heap; rw [ht]; exact X.1⟩, X.2.F ht⟩) X.2.2.2 hdg hlk
/-! ===== behind a call ===== -/
theorem jq_gi {mc ms : Nat} {z : Int32 × jq_H} {a : Array Value} (hr : va_Run p l e R s m args below meth c H locs cells slots mc ms (F0 m pc ls st) rest (jq_Qi bs D ct z a) (fun q => bs ≤ q)) (X : jq_X bs D ct s.heap h H locs)
    (kk : ∀ H1 locs1, jq_X bs D ct s.heap z.2 H1 locs1 → W p l e R s m args below meth c H1 locs1 (cells + mc) (slots + ms) Q (F0 m (pc + 3) ls (.int z.1 :: rest))) : W p l e R s m args below meth c H locs cells slots Q (F0 m pc ls st) :=
  va_calli hr X.2 (fun _ _ q => q) (fun _ q => q) (fun r u t H1 locs1 ht hvm hp hB hz hk hS => by
    have hp' : r = z.1 := hp
    subst hp'
    exact kk H1 locs1 ⟨by rw [← ht]; exact hB, hS⟩)
theorem jq_gv {mc ms : Nat} {z : jq_H} {a : Array Value} (hr : va_Run p l e R s m args below meth c H locs cells slots mc ms (F0 m pc ls st) rest (jq_Qv bs D ct z a) (fun q => bs ≤ q)) (X : jq_X bs D ct s.heap h H locs)
    (kk : ∀ H1 locs1, jq_X bs D ct s.heap z H1 locs1 → W p l e R s m args below meth c H1 locs1 (cells + mc) (slots + ms) Q (F0 m (pc + 3) ls rest)) : W p l e R s m args below meth c H locs cells slots Q (F0 m pc ls st) :=
  va_callv hr X.2 (fun _ _ q => q) (fun _ q => q) (fun u t H1 locs1 ht hvm hp hB hz hk hS => kk H1 locs1 ⟨by rw [← ht]; exact hB, hS⟩)
theorem jq_gr {mc ms : Nat} {z : Nat × jq_H} {a : Array Value} (hr : va_Run p l e R s m args below meth c H locs cells slots mc ms (F0 m pc ls st) rest (jq_Qr bs D ct z a) (fun q => bs ≤ q)) (X : jq_X bs D ct s.heap h H locs)
    (kk : ∀ H1 locs1, jq_X bs D ct s.heap z.2 H1 locs1 → W p l e R s m args below meth c H1 locs1 (cells + mc) (slots + ms) Q (F0 m (pc + 3) ls (.ref z.1 :: rest))) : W p l e R s m args below meth c H locs cells slots Q (F0 m pc ls st) :=
  va_callr hr X.2 (fun _ _ q => q) (fun _ q => q) (fun u a t H1 locs1 ht hvm hp hB hz hk hS => by
    have hB1 : a = z.1 := hB.1
    subst hB1
    exact kk H1 locs1 ⟨by rw [← ht]; exact hB.2, hS⟩)
/-! ===== the runs ===== -/
theorem jq_pre (C : jq_C p s m args c cc nL own D ct bs) (X : jq_X bs D ct s.heap h H locs) (av : List Value) : ∀ U : State, U.heap = H → s.WarmedH U.vm → jq_P av bs D ct h av.toArray U := by
  intro U hU hW
  obtain ⟨-, -, -, -, -, hK, hN, hbs0⟩ := C
  exact ⟨rfl, by rw [hU]; exact X.1, by rw [hU]; exact Nat.le_trans hbs0 X.2.1, va_K.moved hW.alike hK, jq_Nwarm hW hN⟩
theorem jq_recv (C : jq_C p s m args c cc nL own D ct bs) (X : jq_X bs D ct s.heap h H locs) {ci : Nat} {E : String} (hc : jq_RC ci E) {a : Nat} (ha : jq_ci h a = ci) (hne : ci < 1000) : ∃ cell : Cell, H[a]? = some cell ∧ cell.vm.isStatics = false ∧ s.vm.findClass E = some cell.cls := by
  obtain ⟨T, N, hc⟩ := hc
  unfold jq_ci at ha
  split at ha
  · rename_i o ho
    subst ha
    exact va_recv (q0 := 0) (fs := o.2) C.2.2.2.2.2.1 (jq_one (X.1.2 a _ ho).2) hc rfl
  · omega
variable {y : MethodName} {b2 : ByteArray} {maxL n idx : Nat} {ret : Option FieldType} {rm : Room} {Qc : Array Value → State → Outcome → State → Prop} {av : List Value}
theorem jq_runS (C : jq_C p s m args c cc nL own D ct bs) (X : jq_X bs D ct s.heap h H locs) (hM : jq_M l y b2 maxL ret rm (jq_P av bs D ct h) Qc bs) (F : jq_MF y b2 maxL ret n) (hs : Cond.static y ∈ jq_G) (hl : jq_LK own idx y) (hn : av.length = n) (hsz : ls.size = nL) (hst : st = av.reverse ++ rest) (hW : (rest.map fun v => v.category).sum ≤ 8) (hR : rm.frames + 1 ≤ R.frames ∧ 8 + (maxL + 11) + rm.locals ≤ R.locals) (hf : cells + rm.cells ≤ R.cells ∧ slots + rm.slots ≤ R.slots) (hdg : decode cc pc = .ok (.invokestatic idx, 3)) :
    va_Run p l e R s m args below meth c H locs cells slots rm.cells rm.slots (F0 m pc ls st) rest (Qc av.toArray) (fun q => bs ≤ q) := by
  have hp := jq_pre C X av
  obtain ⟨hx, hb, hml, hown, hts, hK, hN, -⟩ := C
  obtain ⟨fc, fi, fd⟩ := F
  have hG : GoodIn jq_G (Cond.code y b2 maxL ret :: jq_G) := jq_goodIn0 (fun w hw => by rcases List.mem_cons.mp hw with rfl | hw; exact fc; exact hw)
  rcases hl with hl | ⟨host, hl⟩
  · exact va_runS ⟨hx, hb, hml, hown, hts⟩ hM ⟨callB_of n hts hG rfl rfl rfl (hts _ fi) (hts _ hl) fd hR, hts _ hs⟩ ⟨jq_blind, hp⟩ rfl hn hsz hst (lv_room hW) hdg hf
  · exact va_runSN ⟨hx, hb, hml, hown, hts⟩ hM ⟨va_cnB n hts hG rfl rfl rfl (hN _ hl) (hts _ fi) fd hR, hts _ hs, trivial⟩ ⟨jq_blind, hp⟩ rfl hn hsz hst (lv_room hW) hdg hf
variable {a : Nat}
theorem jq_runI (C : jq_C p s m args c cc nL own D ct bs) (X : jq_X bs D ct s.heap h H locs) (hM : jq_M l y b2 maxL none rm (jq_P (.ref a :: av) bs D ct h) Qc bs) (F : jq_MF y b2 maxL none n) (hyn : y.name = "<init>") (hi : Cond.instanceMethod y ∈ jq_G) (hl : jq_LK own idx y) (hn : av.length = n) (hsz : ls.size = nL) (hst : st = av.reverse ++ .ref a :: rest) (hW : (rest.map fun v => v.category).sum ≤ 8) (hR : rm.frames + 1 ≤ R.frames ∧ 8 + (maxL + 11) + rm.locals ≤ R.locals) (hf : cells + rm.cells ≤ R.cells ∧ slots + rm.slots ≤ R.slots) (hdg : decode cc pc = .ok (.invokespecial idx, 3)) :
    va_Run p l e R s m args below meth c H locs cells slots rm.cells rm.slots (F0 m pc ls st) rest (Qc (Value.ref a :: av).toArray) (fun q => bs ≤ q) := by
  have hp := jq_pre C X (.ref a :: av)
  obtain ⟨hx, hb, hml, hown, hts, hK, hN, -⟩ := C
  obtain ⟨fc, fi, fd⟩ := F
  have hG : GoodIn jq_G (Cond.code y b2 maxL none :: jq_G) := jq_goodIn0 (fun w hw => by rcases List.mem_cons.mp hw with rfl | hw; exact fc; exact hw)
  rcases hl with hl | ⟨host, hl⟩
  · exact va_runI ⟨hx, hb, hml, hown, hts⟩ hM ⟨callB_of n hts hG rfl rfl rfl (hts _ fi) (hts _ hl) fd hR, hyn, hts _ hi⟩ ⟨jq_blind, hp⟩ rfl hn hsz hst (lv_room hW) hdg hf
  · exact va_runIN ⟨hx, hb, hml, hown, hts⟩ hM ⟨va_cnB n hts hG rfl rfl rfl (hN _ hl) (hts _ fi) fd hR, hyn, hts _ hi⟩ ⟨jq_blind, hp⟩ rfl hn hsz hst (lv_room hW) hdg hf
/-- the receiver's class declares the method -/
theorem jq_runV (C : jq_C p s m args c cc nL own D ct bs) (X : jq_X bs D ct s.heap h H locs) (hM : jq_M l y b2 maxL ret rm (jq_P (.ref a :: av) bs D ct h) Qc bs) (F : jq_MF y b2 maxL ret n) (hi : Cond.instanceMethod y ∈ jq_G) (hse : Cond.selects y.cls y y ∈ jq_G) (hl : jq_LK own idx y) {ci : Nat} (hrc : jq_RC ci y.cls) (hci : jq_ci h a = ci) (hne : ci < 1000) (hn : av.length = n) (hsz : ls.size = nL) (hst : st = av.reverse ++ .ref a :: rest) (hW : (rest.map fun v => v.category).sum ≤ 8) (hR : rm.frames + 1 ≤ R.frames ∧ 8 + (maxL + 11) + rm.locals ≤ R.locals) (hf : cells + rm.cells ≤ R.cells ∧ slots + rm.slots ≤ R.slots) (hdg : decode cc pc = .ok (.invokevirtual idx, 3)) :
    va_Run p l e R s m args below meth c H locs cells slots rm.cells rm.slots (F0 m pc ls st) rest (Qc (Value.ref a :: av).toArray) (fun q => bs ≤ q) := by
  have hp := jq_pre C X (.ref a :: av)
  have hrv := jq_recv C X hrc hci hne
  obtain ⟨hx, hb, hml, hown, hts, hK, hN, -⟩ := C
  obtain ⟨fc, fi, fd⟩ := F
  have hG : GoodIn jq_G (Cond.code y b2 maxL ret :: jq_G) := jq_goodIn0 (fun w hw => by rcases List.mem_cons.mp hw with rfl | hw; exact fc; exact hw)
  rcases hl with hl | ⟨host, hl⟩
  · exact va_runV ⟨hx, hb, hml, hown, hts⟩ hM ⟨callB_of n hts hG rfl rfl rfl (hts _ fi) (hts _ hl) fd hR, hts _ hi, hts _ hse⟩ ⟨jq_blind, hrv, hp⟩ rfl hn hsz hst (lv_room hW) hdg hf
  · exact va_runVN ⟨hx, hb, hml, hown, hts⟩ hM ⟨va_cnB n hts hG rfl rfl rfl (hN _ hl) (hts _ fi) fd hR, hts _ hi, hts _ hse⟩ ⟨jq_blind, hrv, hp⟩ rfl hn hsz hst (lv_room hW) hdg hf
/-- the reference names x, of the class owner; the receiver's class E selects y -/
theorem jq_runU (C : jq_C p s m args c cc nL own D ct bs) (X : jq_X bs D ct s.heap h H locs) {x : MethodName} {owner E : String} (hM : jq_M l y b2 maxL ret rm (jq_P (.ref a :: av) bs D ct h) Qc bs) (F : jq_MF y b2 maxL ret n) (hi : Cond.instanceMethod y ∈ jq_G) (hse : Cond.selects E x y ∈ jq_G) (hl : Cond.methodLink own idx x ∈ jq_G) (hsm : Cond.sameMethod x.cls owner x.name x.desc ∈ jq_G) (hdc : (∃ b0 m0 r0, Cond.instanceMethod ⟨owner, x.name, x.desc⟩ ∈ jq_G ∧ Cond.code ⟨owner, x.name, x.desc⟩ b0 m0 r0 ∈ jq_G) ∨ Cond.declares ⟨owner, x.name, x.desc⟩ ∈ jq_N) (hxd : x.desc = y.desc) (how : owner ≠ "java/lang/invoke/MethodHandle" ∧ owner ≠ "java/lang/invoke/VarHandle") {ci : Nat} (hrc : jq_RC ci E) (hci : jq_ci h a = ci) (hne : ci < 1000) (hn : av.length = n) (hsz : ls.size = nL) (hst : st = av.reverse ++ .ref a :: rest) (hW : (rest.map fun v => v.category).sum ≤ 8) (hR : rm.frames + 1 ≤ R.frames ∧ 8 + (maxL + 11) + rm.locals ≤ R.locals) (hf : cells + rm.cells ≤ R.cells ∧ slots + rm.slots ≤ R.slots) (hdg : decode cc pc = .ok (.invokevirtual idx, 3)) :
    va_Run p l e R s m args below meth c H locs cells slots rm.cells rm.slots (F0 m pc ls st) rest (Qc (Value.ref a :: av).toArray) (fun q => bs ≤ q) := by
  have hp := jq_pre C X (.ref a :: av)
  have hrv := jq_recv C X hrc hci hne
  obtain ⟨hx, hb, hml, hown, hts, hK, hN, -⟩ := C
  obtain ⟨fc, fi, fd⟩ := F
  have hG : GoodIn jq_G (Cond.code y b2 maxL ret :: jq_G) := jq_goodIn0 (fun w hw => by rcases List.mem_cons.mp hw with rfl | hw; exact fc; exact hw)
  have hdcl : va_Decl s ⟨owner, x.name, x.desc⟩ := by
    rcases hdc with ⟨b0, m0, r0, d1, d2⟩ | d
    · exact va_Decl.of (hts _ d1) (hts _ d2)
    · exact va_Decl.abs (hN _ d)
  refine va_runU (owner := owner) (C := E) (x := x) ⟨hx, hb, hml, hown, hts⟩ hM ⟨⟨rfl, rfl, hR.1, hR.2, pay_in hts hG, List.mem_cons_self⟩, hts _ fc, hts _ fi, how, fun sig hsig => ?_, hts _ hl, hts _ hsm, hdcl, hts _ hse, hts _ hi⟩ ⟨jq_blind, hrv, hp⟩ rfl hn hsz hst (lv_room hW) hdg hf
  have h2 := fd.2.2
  rw [hxd] at hsig
  rw [hsig] at h2
  exact (Option.some.inj h2).symm
end JC
end
