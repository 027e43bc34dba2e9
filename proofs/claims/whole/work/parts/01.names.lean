-- ===== PART A: goes FIRST, ahead of the names: the tables' words, and 'selects' of the private methods out of them =====
/-- a private method of a class that the tables say can be made, by its rows of tables_1 -/
def lw_okq (q : MethodName × Nat) : Prop := (q.1.cls ≠ "java/lang/invoke/MethodHandle" ∧ q.1.cls ≠ "java/lang/invoke/VarHandle") ∧ Cond.instantiable q.1.cls q.2 ∈ tables_1 ∧ Cond.privateMethod q.1 ∈ tables_1 ∧ Cond.instanceMethod q.1 ∈ tables_1
theorem lw_p0 : lw_okq (⟨"OneIsTwo$World", "come", "(II)I"⟩, 15) := ⟨⟨by decide +kernel, by decide +kernel⟩, List.mem_of_getElem? (i := 30) (by decide +kernel), List.mem_of_getElem? (i := 486) (by decide +kernel), List.mem_of_getElem? (i := 487) (by decide +kernel)⟩
theorem lw_p1 : lw_okq (⟨"OneIsTwo$World", "tell", "(II)V"⟩, 15) := ⟨⟨by decide +kernel, by decide +kernel⟩, List.mem_of_getElem? (i := 30) (by decide +kernel), List.mem_of_getElem? (i := 494) (by decide +kernel), List.mem_of_getElem? (i := 495) (by decide +kernel)⟩
theorem lw_p2 : lw_okq (⟨"OneIsTwo$World", "settle", "(I)V"⟩, 15) := ⟨⟨by decide +kernel, by decide +kernel⟩, List.mem_of_getElem? (i := 30) (by decide +kernel), List.mem_of_getElem? (i := 521) (by decide +kernel), List.mem_of_getElem? (i := 522) (by decide +kernel)⟩
theorem lw_p3 : lw_okq (⟨"OneIsTwo$Law", "holds", "(I[I)Z"⟩, 5) := ⟨⟨by decide +kernel, by decide +kernel⟩, List.mem_of_getElem? (i := 44) (by decide +kernel), List.mem_of_getElem? (i := 534) (by decide +kernel), List.mem_of_getElem? (i := 535) (by decide +kernel)⟩
theorem lw_p4 : lw_okq (⟨"OneIsTwo$World", "goAway", "(II)V"⟩, 15) := ⟨⟨by decide +kernel, by decide +kernel⟩, List.mem_of_getElem? (i := 30) (by decide +kernel), List.mem_of_getElem? (i := 557) (by decide +kernel), List.mem_of_getElem? (i := 558) (by decide +kernel)⟩
theorem lw_p5 : lw_okq (⟨"OneIsTwo$LawReader", "next", "()V"⟩, 7) := ⟨⟨by decide +kernel, by decide +kernel⟩, List.mem_of_getElem? (i := 344) (by decide +kernel), List.mem_of_getElem? (i := 614) (by decide +kernel), List.mem_of_getElem? (i := 615) (by decide +kernel)⟩
theorem lw_p6 : lw_okq (⟨"OneIsTwo$LawReader", "placeAmong", "(Ljava/lang/String;)I"⟩, 7) := ⟨⟨by decide +kernel, by decide +kernel⟩, List.mem_of_getElem? (i := 344) (by decide +kernel), List.mem_of_getElem? (i := 633) (by decide +kernel), List.mem_of_getElem? (i := 634) (by decide +kernel)⟩
theorem lw_p7 : lw_okq (⟨"OneIsTwo$LawReader", "isWord", "(Ljava/lang/String;)Z"⟩, 7) := ⟨⟨by decide +kernel, by decide +kernel⟩, List.mem_of_getElem? (i := 344) (by decide +kernel), List.mem_of_getElem? (i := 695) (by decide +kernel), List.mem_of_getElem? (i := 696) (by decide +kernel)⟩
theorem lw_p8 : lw_okq (⟨"OneIsTwo$LawReader", "readAnyOf", "(I)Z"⟩, 7) := ⟨⟨by decide +kernel, by decide +kernel⟩, List.mem_of_getElem? (i := 344) (by decide +kernel), List.mem_of_getElem? (i := 699) (by decide +kernel), List.mem_of_getElem? (i := 700) (by decide +kernel)⟩
theorem lw_p9 : lw_okq (⟨"OneIsTwo$LawReader", "readAllOf", "(I)Z"⟩, 7) := ⟨⟨by decide +kernel, by decide +kernel⟩, List.mem_of_getElem? (i := 344) (by decide +kernel), List.mem_of_getElem? (i := 703) (by decide +kernel), List.mem_of_getElem? (i := 704) (by decide +kernel)⟩
theorem lw_p10 : lw_okq (⟨"OneIsTwo$LawReader", "readOne", "(I)Z"⟩, 7) := ⟨⟨by decide +kernel, by decide +kernel⟩, List.mem_of_getElem? (i := 344) (by decide +kernel), List.mem_of_getElem? (i := 707) (by decide +kernel), List.mem_of_getElem? (i := 708) (by decide +kernel)⟩
theorem lw_p11 : lw_okq (⟨"OneIsTwo$LawReader", "readComparison", "()Z"⟩, 7) := ⟨⟨by decide +kernel, by decide +kernel⟩, List.mem_of_getElem? (i := 344) (by decide +kernel), List.mem_of_getElem? (i := 712) (by decide +kernel), List.mem_of_getElem? (i := 713) (by decide +kernel)⟩
theorem lw_p12 : lw_okq (⟨"OneIsTwo$LawReader", "operand", "()I"⟩, 7) := ⟨⟨by decide +kernel, by decide +kernel⟩, List.mem_of_getElem? (i := 344) (by decide +kernel), List.mem_of_getElem? (i := 716) (by decide +kernel), List.mem_of_getElem? (i := 717) (by decide +kernel)⟩
theorem lw_p13 : lw_okq (⟨"OneIsTwo$Ledger", "give", "(II)V"⟩, 2) := ⟨⟨by decide +kernel, by decide +kernel⟩, List.mem_of_getElem? (i := 302) (by decide +kernel), List.mem_of_getElem? (i := 786) (by decide +kernel), List.mem_of_getElem? (i := 787) (by decide +kernel)⟩
theorem lw_p14 : lw_okq (⟨"OneIsTwo$Ledger", "part", "(ILOneIsTwo$Event;)V"⟩, 2) := ⟨⟨by decide +kernel, by decide +kernel⟩, List.mem_of_getElem? (i := 302) (by decide +kernel), List.mem_of_getElem? (i := 798) (by decide +kernel), List.mem_of_getElem? (i := 799) (by decide +kernel)⟩
theorem lw_p15 : lw_okq (⟨"OneIsTwo$Minds", "toldUpTo", "(I)I"⟩, 3) := ⟨⟨by decide +kernel, by decide +kernel⟩, List.mem_of_getElem? (i := 327) (by decide +kernel), List.mem_of_getElem? (i := 838) (by decide +kernel), List.mem_of_getElem? (i := 839) (by decide +kernel)⟩
def lw_privs_1 : List (MethodName × Nat) := [(⟨"OneIsTwo$World", "come", "(II)I"⟩, 15), (⟨"OneIsTwo$World", "tell", "(II)V"⟩, 15), (⟨"OneIsTwo$World", "settle", "(I)V"⟩, 15), (⟨"OneIsTwo$Law", "holds", "(I[I)Z"⟩, 5), (⟨"OneIsTwo$World", "goAway", "(II)V"⟩, 15), (⟨"OneIsTwo$LawReader", "next", "()V"⟩, 7), (⟨"OneIsTwo$LawReader", "placeAmong", "(Ljava/lang/String;)I"⟩, 7), (⟨"OneIsTwo$LawReader", "isWord", "(Ljava/lang/String;)Z"⟩, 7), (⟨"OneIsTwo$LawReader", "readAnyOf", "(I)Z"⟩, 7), (⟨"OneIsTwo$LawReader", "readAllOf", "(I)Z"⟩, 7), (⟨"OneIsTwo$LawReader", "readOne", "(I)Z"⟩, 7), (⟨"OneIsTwo$LawReader", "readComparison", "()Z"⟩, 7), (⟨"OneIsTwo$LawReader", "operand", "()I"⟩, 7), (⟨"OneIsTwo$Ledger", "give", "(II)V"⟩, 2), (⟨"OneIsTwo$Ledger", "part", "(ILOneIsTwo$Event;)V"⟩, 2), (⟨"OneIsTwo$Minds", "toldUpTo", "(I)I"⟩, 3)]
theorem lw_r1 : ∀ q ∈ lw_privs_1, lw_okq q := List.forall_mem_cons.mpr ⟨lw_p0, List.forall_mem_cons.mpr ⟨lw_p1, List.forall_mem_cons.mpr ⟨lw_p2, List.forall_mem_cons.mpr ⟨lw_p3, List.forall_mem_cons.mpr ⟨lw_p4, List.forall_mem_cons.mpr ⟨lw_p5, List.forall_mem_cons.mpr ⟨lw_p6, List.forall_mem_cons.mpr ⟨lw_p7, List.forall_mem_cons.mpr ⟨lw_p8, List.forall_mem_cons.mpr ⟨lw_p9, List.forall_mem_cons.mpr ⟨lw_p10, List.forall_mem_cons.mpr ⟨lw_p11, List.forall_mem_cons.mpr ⟨lw_p12, List.forall_mem_cons.mpr ⟨lw_p13, List.forall_mem_cons.mpr ⟨lw_p14, List.forall_mem_cons.mpr ⟨lw_p15, fun _ h => absurd h List.not_mem_nil⟩⟩⟩⟩⟩⟩⟩⟩⟩⟩⟩⟩⟩⟩⟩⟩
theorem lw_p16 : lw_okq (⟨"OneIsTwo$Minds", "allWhoKnow", "(I)I"⟩, 3) := ⟨⟨by decide +kernel, by decide +kernel⟩, List.mem_of_getElem? (i := 327) (by decide +kernel), List.mem_of_getElem? (i := 851) (by decide +kernel), List.mem_of_getElem? (i := 852) (by decide +kernel)⟩
theorem lw_p17 : lw_okq (⟨"OneIsTwo$Minds", "isCounted", "(I)Z"⟩, 3) := ⟨⟨by decide +kernel, by decide +kernel⟩, List.mem_of_getElem? (i := 327) (by decide +kernel), List.mem_of_getElem? (i := 856) (by decide +kernel), List.mem_of_getElem? (i := 857) (by decide +kernel)⟩
theorem lw_p18 : lw_okq (⟨"OneIsTwo$Minds", "unlessEnded", "(I)I"⟩, 3) := ⟨⟨by decide +kernel, by decide +kernel⟩, List.mem_of_getElem? (i := 327) (by decide +kernel), List.mem_of_getElem? (i := 862) (by decide +kernel), List.mem_of_getElem? (i := 863) (by decide +kernel)⟩
theorem lw_p19 : lw_okq (⟨"OneIsTwo$Minds", "bodyOf", "(I)I"⟩, 3) := ⟨⟨by decide +kernel, by decide +kernel⟩, List.mem_of_getElem? (i := 327) (by decide +kernel), List.mem_of_getElem? (i := 867) (by decide +kernel), List.mem_of_getElem? (i := 868) (by decide +kernel)⟩
theorem lw_p20 : lw_okq (⟨"OneIsTwo$Sides", "follow", "(LOneIsTwo$Wedding;I)I"⟩, 1) := ⟨⟨by decide +kernel, by decide +kernel⟩, List.mem_of_getElem? (i := 317) (by decide +kernel), List.mem_of_getElem? (i := 879) (by decide +kernel), List.mem_of_getElem? (i := 880) (by decide +kernel)⟩
theorem lw_p21 : lw_okq (⟨"OneIsTwo$Sides", "withCopy", "(ILOneIsTwo$Event;)I"⟩, 1) := ⟨⟨by decide +kernel, by decide +kernel⟩, List.mem_of_getElem? (i := 317) (by decide +kernel), List.mem_of_getElem? (i := 884) (by decide +kernel), List.mem_of_getElem? (i := 885) (by decide +kernel)⟩
theorem lw_p22 : lw_okq (⟨"OneIsTwo$Minds", "findApart", "()I"⟩, 3) := ⟨⟨by decide +kernel, by decide +kernel⟩, List.mem_of_getElem? (i := 327) (by decide +kernel), List.mem_of_getElem? (i := 934) (by decide +kernel), List.mem_of_getElem? (i := 935) (by decide +kernel)⟩
theorem lw_p23 : lw_okq (⟨"OneIsTwo$Minds", "tellApart", "(II)Z"⟩, 3) := ⟨⟨by decide +kernel, by decide +kernel⟩, List.mem_of_getElem? (i := 327) (by decide +kernel), List.mem_of_getElem? (i := 944) (by decide +kernel), List.mem_of_getElem? (i := 945) (by decide +kernel)⟩
theorem lw_p24 : lw_okq (⟨"OneIsTwo", "tryChoice", "(II)I"⟩, 19) := ⟨⟨by decide +kernel, by decide +kernel⟩, List.mem_of_getElem? (i := 22) (by decide +kernel), List.mem_of_getElem? (i := 955) (by decide +kernel), List.mem_of_getElem? (i := 956) (by decide +kernel)⟩
theorem lw_p25 : lw_okq (⟨"OneIsTwo", "isRowPlace", "(II)Z"⟩, 19) := ⟨⟨by decide +kernel, by decide +kernel⟩, List.mem_of_getElem? (i := 22) (by decide +kernel), List.mem_of_getElem? (i := 994) (by decide +kernel), List.mem_of_getElem? (i := 995) (by decide +kernel)⟩
theorem lw_p26 : lw_okq (⟨"OneIsTwo", "isRightRow", "(II)Z"⟩, 19) := ⟨⟨by decide +kernel, by decide +kernel⟩, List.mem_of_getElem? (i := 22) (by decide +kernel), List.mem_of_getElem? (i := 1011) (by decide +kernel), List.mem_of_getElem? (i := 1012) (by decide +kernel)⟩
theorem lw_p27 : lw_okq (⟨"OneIsTwo", "lay", "(III)I"⟩, 19) := ⟨⟨by decide +kernel, by decide +kernel⟩, List.mem_of_getElem? (i := 22) (by decide +kernel), List.mem_of_getElem? (i := 1045) (by decide +kernel), List.mem_of_getElem? (i := 1046) (by decide +kernel)⟩
theorem lw_p28 : lw_okq (⟨"OneIsTwo", "layRow", "(II)I"⟩, 19) := ⟨⟨by decide +kernel, by decide +kernel⟩, List.mem_of_getElem? (i := 22) (by decide +kernel), List.mem_of_getElem? (i := 1049) (by decide +kernel), List.mem_of_getElem? (i := 1050) (by decide +kernel)⟩
theorem lw_p29 : lw_okq (⟨"OneIsTwo", "heldOn", "(I)I"⟩, 19) := ⟨⟨by decide +kernel, by decide +kernel⟩, List.mem_of_getElem? (i := 22) (by decide +kernel), List.mem_of_getElem? (i := 1057) (by decide +kernel), List.mem_of_getElem? (i := 1058) (by decide +kernel)⟩
theorem lw_p30 : lw_okq (⟨"OneIsTwo", "kindOn", "(I)I"⟩, 19) := ⟨⟨by decide +kernel, by decide +kernel⟩, List.mem_of_getElem? (i := 22) (by decide +kernel), List.mem_of_getElem? (i := 1061) (by decide +kernel), List.mem_of_getElem? (i := 1062) (by decide +kernel)⟩
theorem lw_p31 : lw_okq (⟨"OneIsTwo$Actor", "run", "(III)I"⟩, 6) := ⟨⟨by decide +kernel, by decide +kernel⟩, List.mem_of_getElem? (i := 377) (by decide +kernel), List.mem_of_getElem? (i := 1088) (by decide +kernel), List.mem_of_getElem? (i := 1089) (by decide +kernel)⟩
def lw_privs_2 : List (MethodName × Nat) := [(⟨"OneIsTwo$Minds", "allWhoKnow", "(I)I"⟩, 3), (⟨"OneIsTwo$Minds", "isCounted", "(I)Z"⟩, 3), (⟨"OneIsTwo$Minds", "unlessEnded", "(I)I"⟩, 3), (⟨"OneIsTwo$Minds", "bodyOf", "(I)I"⟩, 3), (⟨"OneIsTwo$Sides", "follow", "(LOneIsTwo$Wedding;I)I"⟩, 1), (⟨"OneIsTwo$Sides", "withCopy", "(ILOneIsTwo$Event;)I"⟩, 1), (⟨"OneIsTwo$Minds", "findApart", "()I"⟩, 3), (⟨"OneIsTwo$Minds", "tellApart", "(II)Z"⟩, 3), (⟨"OneIsTwo", "tryChoice", "(II)I"⟩, 19), (⟨"OneIsTwo", "isRowPlace", "(II)Z"⟩, 19), (⟨"OneIsTwo", "isRightRow", "(II)Z"⟩, 19), (⟨"OneIsTwo", "lay", "(III)I"⟩, 19), (⟨"OneIsTwo", "layRow", "(II)I"⟩, 19), (⟨"OneIsTwo", "heldOn", "(I)I"⟩, 19), (⟨"OneIsTwo", "kindOn", "(I)I"⟩, 19), (⟨"OneIsTwo$Actor", "run", "(III)I"⟩, 6)]
theorem lw_r2 : ∀ q ∈ lw_privs_2, lw_okq q := List.forall_mem_cons.mpr ⟨lw_p16, List.forall_mem_cons.mpr ⟨lw_p17, List.forall_mem_cons.mpr ⟨lw_p18, List.forall_mem_cons.mpr ⟨lw_p19, List.forall_mem_cons.mpr ⟨lw_p20, List.forall_mem_cons.mpr ⟨lw_p21, List.forall_mem_cons.mpr ⟨lw_p22, List.forall_mem_cons.mpr ⟨lw_p23, List.forall_mem_cons.mpr ⟨lw_p24, List.forall_mem_cons.mpr ⟨lw_p25, List.forall_mem_cons.mpr ⟨lw_p26, List.forall_mem_cons.mpr ⟨lw_p27, List.forall_mem_cons.mpr ⟨lw_p28, List.forall_mem_cons.mpr ⟨lw_p29, List.forall_mem_cons.mpr ⟨lw_p30, List.forall_mem_cons.mpr ⟨lw_p31, fun _ h => absurd h List.not_mem_nil⟩⟩⟩⟩⟩⟩⟩⟩⟩⟩⟩⟩⟩⟩⟩⟩
theorem lw_p32 : lw_okq (⟨"OneIsTwo$Actor", "parted", "(I)I"⟩, 6) := ⟨⟨by decide +kernel, by decide +kernel⟩, List.mem_of_getElem? (i := 377) (by decide +kernel), List.mem_of_getElem? (i := 1092) (by decide +kernel), List.mem_of_getElem? (i := 1093) (by decide +kernel)⟩
theorem lw_p33 : lw_okq (⟨"OneIsTwoModel", "hasRoom", "()Z"⟩, 37) := ⟨⟨by decide +kernel, by decide +kernel⟩, List.mem_of_getElem? (i := 1112) (by decide +kernel), List.mem_of_getElem? (i := 1242) (by decide +kernel), List.mem_of_getElem? (i := 1243) (by decide +kernel)⟩
theorem lw_p34 : lw_okq (⟨"OneIsTwoModel", "comes", "(IIII)I"⟩, 37) := ⟨⟨by decide +kernel, by decide +kernel⟩, List.mem_of_getElem? (i := 1112) (by decide +kernel), List.mem_of_getElem? (i := 1246) (by decide +kernel), List.mem_of_getElem? (i := 1247) (by decide +kernel)⟩
theorem lw_p35 : lw_okq (⟨"OneIsTwoModel", "event", "(II)V"⟩, 37) := ⟨⟨by decide +kernel, by decide +kernel⟩, List.mem_of_getElem? (i := 1112) (by decide +kernel), List.mem_of_getElem? (i := 1250) (by decide +kernel), List.mem_of_getElem? (i := 1251) (by decide +kernel)⟩
theorem lw_p36 : lw_okq (⟨"OneIsTwoModel", "isPerson", "(I)Z"⟩, 37) := ⟨⟨by decide +kernel, by decide +kernel⟩, List.mem_of_getElem? (i := 1112) (by decide +kernel), List.mem_of_getElem? (i := 1258) (by decide +kernel), List.mem_of_getElem? (i := 1259) (by decide +kernel)⟩
theorem lw_p37 : lw_okq (⟨"OneIsTwoModel", "isAwake", "(I)Z"⟩, 37) := ⟨⟨by decide +kernel, by decide +kernel⟩, List.mem_of_getElem? (i := 1112) (by decide +kernel), List.mem_of_getElem? (i := 1263) (by decide +kernel), List.mem_of_getElem? (i := 1264) (by decide +kernel)⟩
theorem lw_p38 : lw_okq (⟨"OneIsTwoModel", "of", "(II)I"⟩, 37) := ⟨⟨by decide +kernel, by decide +kernel⟩, List.mem_of_getElem? (i := 1112) (by decide +kernel), List.mem_of_getElem? (i := 1267) (by decide +kernel), List.mem_of_getElem? (i := 1268) (by decide +kernel)⟩
theorem lw_p39 : lw_okq (⟨"OneIsTwoModel", "copies", "(IIIIZ)I"⟩, 37) := ⟨⟨by decide +kernel, by decide +kernel⟩, List.mem_of_getElem? (i := 1112) (by decide +kernel), List.mem_of_getElem? (i := 1272) (by decide +kernel), List.mem_of_getElem? (i := 1273) (by decide +kernel)⟩
theorem lw_p40 : lw_okq (⟨"OneIsTwoModel", "joins", "(II)I"⟩, 37) := ⟨⟨by decide +kernel, by decide +kernel⟩, List.mem_of_getElem? (i := 1112) (by decide +kernel), List.mem_of_getElem? (i := 1284) (by decide +kernel), List.mem_of_getElem? (i := 1285) (by decide +kernel)⟩
theorem lw_p41 : lw_okq (⟨"OneIsTwoModel", "ends", "(I)V"⟩, 37) := ⟨⟨by decide +kernel, by decide +kernel⟩, List.mem_of_getElem? (i := 1112) (by decide +kernel), List.mem_of_getElem? (i := 1292) (by decide +kernel), List.mem_of_getElem? (i := 1293) (by decide +kernel)⟩
theorem lw_p42 : lw_okq (⟨"OneIsTwoModel", "awakeMany", "()I"⟩, 37) := ⟨⟨by decide +kernel, by decide +kernel⟩, List.mem_of_getElem? (i := 1112) (by decide +kernel), List.mem_of_getElem? (i := 1296) (by decide +kernel), List.mem_of_getElem? (i := 1297) (by decide +kernel)⟩
theorem lw_p43 : lw_okq (⟨"OneIsTwoModel", "isVoid", "(I)Z"⟩, 37) := ⟨⟨by decide +kernel, by decide +kernel⟩, List.mem_of_getElem? (i := 1112) (by decide +kernel), List.mem_of_getElem? (i := 1305) (by decide +kernel), List.mem_of_getElem? (i := 1306) (by decide +kernel)⟩
theorem lw_p44 : lw_okq (⟨"OneIsTwoModel", "isCopy", "(I)Z"⟩, 37) := ⟨⟨by decide +kernel, by decide +kernel⟩, List.mem_of_getElem? (i := 1112) (by decide +kernel), List.mem_of_getElem? (i := 1309) (by decide +kernel), List.mem_of_getElem? (i := 1310) (by decide +kernel)⟩
theorem lw_p45 : lw_okq (⟨"OneIsTwoModel", "onEvent", "(III)I"⟩, 37) := ⟨⟨by decide +kernel, by decide +kernel⟩, List.mem_of_getElem? (i := 1112) (by decide +kernel), List.mem_of_getElem? (i := 1313) (by decide +kernel), List.mem_of_getElem? (i := 1314) (by decide +kernel)⟩
theorem lw_p46 : lw_okq (⟨"OneIsTwoModel", "byFacts", "(I)I"⟩, 37) := ⟨⟨by decide +kernel, by decide +kernel⟩, List.mem_of_getElem? (i := 1112) (by decide +kernel), List.mem_of_getElem? (i := 1317) (by decide +kernel), List.mem_of_getElem? (i := 1318) (by decide +kernel)⟩
theorem lw_p47 : lw_okq (⟨"OneIsTwoModel", "holds", "(I)Z"⟩, 37) := ⟨⟨by decide +kernel, by decide +kernel⟩, List.mem_of_getElem? (i := 1112) (by decide +kernel), List.mem_of_getElem? (i := 1321) (by decide +kernel), List.mem_of_getElem? (i := 1322) (by decide +kernel)⟩
def lw_privs_3 : List (MethodName × Nat) := [(⟨"OneIsTwo$Actor", "parted", "(I)I"⟩, 6), (⟨"OneIsTwoModel", "hasRoom", "()Z"⟩, 37), (⟨"OneIsTwoModel", "comes", "(IIII)I"⟩, 37), (⟨"OneIsTwoModel", "event", "(II)V"⟩, 37), (⟨"OneIsTwoModel", "isPerson", "(I)Z"⟩, 37), (⟨"OneIsTwoModel", "isAwake", "(I)Z"⟩, 37), (⟨"OneIsTwoModel", "of", "(II)I"⟩, 37), (⟨"OneIsTwoModel", "copies", "(IIIIZ)I"⟩, 37), (⟨"OneIsTwoModel", "joins", "(II)I"⟩, 37), (⟨"OneIsTwoModel", "ends", "(I)V"⟩, 37), (⟨"OneIsTwoModel", "awakeMany", "()I"⟩, 37), (⟨"OneIsTwoModel", "isVoid", "(I)Z"⟩, 37), (⟨"OneIsTwoModel", "isCopy", "(I)Z"⟩, 37), (⟨"OneIsTwoModel", "onEvent", "(III)I"⟩, 37), (⟨"OneIsTwoModel", "byFacts", "(I)I"⟩, 37), (⟨"OneIsTwoModel", "holds", "(I)Z"⟩, 37)]
theorem lw_r3 : ∀ q ∈ lw_privs_3, lw_okq q := List.forall_mem_cons.mpr ⟨lw_p32, List.forall_mem_cons.mpr ⟨lw_p33, List.forall_mem_cons.mpr ⟨lw_p34, List.forall_mem_cons.mpr ⟨lw_p35, List.forall_mem_cons.mpr ⟨lw_p36, List.forall_mem_cons.mpr ⟨lw_p37, List.forall_mem_cons.mpr ⟨lw_p38, List.forall_mem_cons.mpr ⟨lw_p39, List.forall_mem_cons.mpr ⟨lw_p40, List.forall_mem_cons.mpr ⟨lw_p41, List.forall_mem_cons.mpr ⟨lw_p42, List.forall_mem_cons.mpr ⟨lw_p43, List.forall_mem_cons.mpr ⟨lw_p44, List.forall_mem_cons.mpr ⟨lw_p45, List.forall_mem_cons.mpr ⟨lw_p46, List.forall_mem_cons.mpr ⟨lw_p47, fun _ h => absurd h List.not_mem_nil⟩⟩⟩⟩⟩⟩⟩⟩⟩⟩⟩⟩⟩⟩⟩⟩
theorem lw_p48 : lw_okq (⟨"OneIsTwoModel", "rootOf", "(I)I"⟩, 37) := ⟨⟨by decide +kernel, by decide +kernel⟩, List.mem_of_getElem? (i := 1112) (by decide +kernel), List.mem_of_getElem? (i := 1328) (by decide +kernel), List.mem_of_getElem? (i := 1329) (by decide +kernel)⟩
theorem lw_p49 : lw_okq (⟨"OneIsTwoModel", "above", "(I)I"⟩, 37) := ⟨⟨by decide +kernel, by decide +kernel⟩, List.mem_of_getElem? (i := 1112) (by decide +kernel), List.mem_of_getElem? (i := 1336) (by decide +kernel), List.mem_of_getElem? (i := 1337) (by decide +kernel)⟩
theorem lw_p50 : lw_okq (⟨"OneIsTwoModel", "next", "()V"⟩, 37) := ⟨⟨by decide +kernel, by decide +kernel⟩, List.mem_of_getElem? (i := 1112) (by decide +kernel), List.mem_of_getElem? (i := 1353) (by decide +kernel), List.mem_of_getElem? (i := 1354) (by decide +kernel)⟩
theorem lw_p51 : lw_okq (⟨"OneIsTwoModel", "byteAt", "(I)I"⟩, 37) := ⟨⟨by decide +kernel, by decide +kernel⟩, List.mem_of_getElem? (i := 1112) (by decide +kernel), List.mem_of_getElem? (i := 1357) (by decide +kernel), List.mem_of_getElem? (i := 1358) (by decide +kernel)⟩
theorem lw_p52 : lw_okq (⟨"OneIsTwoModel", "oneClause", "()V"⟩, 37) := ⟨⟨by decide +kernel, by decide +kernel⟩, List.mem_of_getElem? (i := 1112) (by decide +kernel), List.mem_of_getElem? (i := 1371) (by decide +kernel), List.mem_of_getElem? (i := 1372) (by decide +kernel)⟩
theorem lw_p53 : lw_okq (⟨"OneIsTwoModel", "keyHere", "()I"⟩, 37) := ⟨⟨by decide +kernel, by decide +kernel⟩, List.mem_of_getElem? (i := 1112) (by decide +kernel), List.mem_of_getElem? (i := 1375) (by decide +kernel), List.mem_of_getElem? (i := 1376) (by decide +kernel)⟩
theorem lw_p54 : lw_okq (⟨"OneIsTwoModel", "isName", "(IIIIII)Z"⟩, 37) := ⟨⟨by decide +kernel, by decide +kernel⟩, List.mem_of_getElem? (i := 1112) (by decide +kernel), List.mem_of_getElem? (i := 1379) (by decide +kernel), List.mem_of_getElem? (i := 1380) (by decide +kernel)⟩
theorem lw_p55 : lw_okq (⟨"OneIsTwoModel", "isAt", "(II)Z"⟩, 37) := ⟨⟨by decide +kernel, by decide +kernel⟩, List.mem_of_getElem? (i := 1112) (by decide +kernel), List.mem_of_getElem? (i := 1383) (by decide +kernel), List.mem_of_getElem? (i := 1384) (by decide +kernel)⟩
theorem lw_p56 : lw_okq (⟨"OneIsTwoModel", "needs", "(Z)V"⟩, 37) := ⟨⟨by decide +kernel, by decide +kernel⟩, List.mem_of_getElem? (i := 1112) (by decide +kernel), List.mem_of_getElem? (i := 1387) (by decide +kernel), List.mem_of_getElem? (i := 1388) (by decide +kernel)⟩
theorem lw_p57 : lw_okq (⟨"OneIsTwoModel", "valueHere", "(I)I"⟩, 37) := ⟨⟨by decide +kernel, by decide +kernel⟩, List.mem_of_getElem? (i := 1112) (by decide +kernel), List.mem_of_getElem? (i := 1391) (by decide +kernel), List.mem_of_getElem? (i := 1392) (by decide +kernel)⟩
theorem lw_p58 : lw_okq (⟨"OneIsTwoModel", "condition", "()V"⟩, 37) := ⟨⟨by decide +kernel, by decide +kernel⟩, List.mem_of_getElem? (i := 1112) (by decide +kernel), List.mem_of_getElem? (i := 1395) (by decide +kernel), List.mem_of_getElem? (i := 1396) (by decide +kernel)⟩
theorem lw_p59 : lw_okq (⟨"OneIsTwoModel", "every", "()V"⟩, 37) := ⟨⟨by decide +kernel, by decide +kernel⟩, List.mem_of_getElem? (i := 1112) (by decide +kernel), List.mem_of_getElem? (i := 1399) (by decide +kernel), List.mem_of_getElem? (i := 1400) (by decide +kernel)⟩
theorem lw_p60 : lw_okq (⟨"OneIsTwoModel", "single", "()V"⟩, 37) := ⟨⟨by decide +kernel, by decide +kernel⟩, List.mem_of_getElem? (i := 1112) (by decide +kernel), List.mem_of_getElem? (i := 1403) (by decide +kernel), List.mem_of_getElem? (i := 1404) (by decide +kernel)⟩
theorem lw_p61 : lw_okq (⟨"OneIsTwoModel", "value", "()V"⟩, 37) := ⟨⟨by decide +kernel, by decide +kernel⟩, List.mem_of_getElem? (i := 1112) (by decide +kernel), List.mem_of_getElem? (i := 1407) (by decide +kernel), List.mem_of_getElem? (i := 1408) (by decide +kernel)⟩
theorem lw_p62 : lw_okq (⟨"OneIsTwoModel", "emits", "(I)V"⟩, 37) := ⟨⟨by decide +kernel, by decide +kernel⟩, List.mem_of_getElem? (i := 1112) (by decide +kernel), List.mem_of_getElem? (i := 1411) (by decide +kernel), List.mem_of_getElem? (i := 1412) (by decide +kernel)⟩
theorem lw_p63 : lw_okq (⟨"OneIsTwoModel", "factHere", "()I"⟩, 37) := ⟨⟨by decide +kernel, by decide +kernel⟩, List.mem_of_getElem? (i := 1112) (by decide +kernel), List.mem_of_getElem? (i := 1415) (by decide +kernel), List.mem_of_getElem? (i := 1416) (by decide +kernel)⟩
def lw_privs_4 : List (MethodName × Nat) := [(⟨"OneIsTwoModel", "rootOf", "(I)I"⟩, 37), (⟨"OneIsTwoModel", "above", "(I)I"⟩, 37), (⟨"OneIsTwoModel", "next", "()V"⟩, 37), (⟨"OneIsTwoModel", "byteAt", "(I)I"⟩, 37), (⟨"OneIsTwoModel", "oneClause", "()V"⟩, 37), (⟨"OneIsTwoModel", "keyHere", "()I"⟩, 37), (⟨"OneIsTwoModel", "isName", "(IIIIII)Z"⟩, 37), (⟨"OneIsTwoModel", "isAt", "(II)Z"⟩, 37), (⟨"OneIsTwoModel", "needs", "(Z)V"⟩, 37), (⟨"OneIsTwoModel", "valueHere", "(I)I"⟩, 37), (⟨"OneIsTwoModel", "condition", "()V"⟩, 37), (⟨"OneIsTwoModel", "every", "()V"⟩, 37), (⟨"OneIsTwoModel", "single", "()V"⟩, 37), (⟨"OneIsTwoModel", "value", "()V"⟩, 37), (⟨"OneIsTwoModel", "emits", "(I)V"⟩, 37), (⟨"OneIsTwoModel", "factHere", "()I"⟩, 37)]
theorem lw_r4 : ∀ q ∈ lw_privs_4, lw_okq q := List.forall_mem_cons.mpr ⟨lw_p48, List.forall_mem_cons.mpr ⟨lw_p49, List.forall_mem_cons.mpr ⟨lw_p50, List.forall_mem_cons.mpr ⟨lw_p51, List.forall_mem_cons.mpr ⟨lw_p52, List.forall_mem_cons.mpr ⟨lw_p53, List.forall_mem_cons.mpr ⟨lw_p54, List.forall_mem_cons.mpr ⟨lw_p55, List.forall_mem_cons.mpr ⟨lw_p56, List.forall_mem_cons.mpr ⟨lw_p57, List.forall_mem_cons.mpr ⟨lw_p58, List.forall_mem_cons.mpr ⟨lw_p59, List.forall_mem_cons.mpr ⟨lw_p60, List.forall_mem_cons.mpr ⟨lw_p61, List.forall_mem_cons.mpr ⟨lw_p62, List.forall_mem_cons.mpr ⟨lw_p63, fun _ h => absurd h List.not_mem_nil⟩⟩⟩⟩⟩⟩⟩⟩⟩⟩⟩⟩⟩⟩⟩⟩
theorem lw_p64 : lw_okq (⟨"OneIsTwoModel", "nowAbout", "(II)I"⟩, 37) := ⟨⟨by decide +kernel, by decide +kernel⟩, List.mem_of_getElem? (i := 1112) (by decide +kernel), List.mem_of_getElem? (i := 1424) (by decide +kernel), List.mem_of_getElem? (i := 1425) (by decide +kernel)⟩
theorem lw_p65 : lw_okq (⟨"OneIsTwoModel", "newClaim", "(III)I"⟩, 37) := ⟨⟨by decide +kernel, by decide +kernel⟩, List.mem_of_getElem? (i := 1112) (by decide +kernel), List.mem_of_getElem? (i := 1433) (by decide +kernel), List.mem_of_getElem? (i := 1434) (by decide +kernel)⟩
theorem lw_p66 : lw_okq (⟨"OneIsTwoModel", "isClaim", "(I)Z"⟩, 37) := ⟨⟨by decide +kernel, by decide +kernel⟩, List.mem_of_getElem? (i := 1112) (by decide +kernel), List.mem_of_getElem? (i := 1441) (by decide +kernel), List.mem_of_getElem? (i := 1442) (by decide +kernel)⟩
theorem lw_p67 : lw_okq (⟨"OneIsTwoModel", "findShares", "(I)V"⟩, 37) := ⟨⟨by decide +kernel, by decide +kernel⟩, List.mem_of_getElem? (i := 1112) (by decide +kernel), List.mem_of_getElem? (i := 1450) (by decide +kernel), List.mem_of_getElem? (i := 1451) (by decide +kernel)⟩
theorem lw_p68 : lw_okq (⟨"OneIsTwoModel", "nobodyStands", "()V"⟩, 37) := ⟨⟨by decide +kernel, by decide +kernel⟩, List.mem_of_getElem? (i := 1112) (by decide +kernel), List.mem_of_getElem? (i := 1454) (by decide +kernel), List.mem_of_getElem? (i := 1455) (by decide +kernel)⟩
theorem lw_p69 : lw_okq (⟨"OneIsTwoModel", "sharesBy", "(II)V"⟩, 37) := ⟨⟨by decide +kernel, by decide +kernel⟩, List.mem_of_getElem? (i := 1112) (by decide +kernel), List.mem_of_getElem? (i := 1459) (by decide +kernel), List.mem_of_getElem? (i := 1460) (by decide +kernel)⟩
theorem lw_p70 : lw_okq (⟨"OneIsTwoModel", "moves", "(II)Z"⟩, 37) := ⟨⟨by decide +kernel, by decide +kernel⟩, List.mem_of_getElem? (i := 1112) (by decide +kernel), List.mem_of_getElem? (i := 1466) (by decide +kernel), List.mem_of_getElem? (i := 1467) (by decide +kernel)⟩
theorem lw_p71 : lw_okq (⟨"OneIsTwoModel", "goesBy", "(I)V"⟩, 37) := ⟨⟨by decide +kernel, by decide +kernel⟩, List.mem_of_getElem? (i := 1112) (by decide +kernel), List.mem_of_getElem? (i := 1470) (by decide +kernel), List.mem_of_getElem? (i := 1471) (by decide +kernel)⟩
theorem lw_p72 : lw_okq (⟨"OneIsTwoModel", "totalOf", "(II)J"⟩, 37) := ⟨⟨by decide +kernel, by decide +kernel⟩, List.mem_of_getElem? (i := 1112) (by decide +kernel), List.mem_of_getElem? (i := 1484) (by decide +kernel), List.mem_of_getElem? (i := 1485) (by decide +kernel)⟩
theorem lw_p73 : lw_okq (⟨"OneIsTwoModel", "isDeed", "(I)Z"⟩, 37) := ⟨⟨by decide +kernel, by decide +kernel⟩, List.mem_of_getElem? (i := 1112) (by decide +kernel), List.mem_of_getElem? (i := 1496) (by decide +kernel), List.mem_of_getElem? (i := 1497) (by decide +kernel)⟩
theorem lw_p74 : lw_okq (⟨"OneIsTwoModel", "rememberers", "(I)I"⟩, 37) := ⟨⟨by decide +kernel, by decide +kernel⟩, List.mem_of_getElem? (i := 1112) (by decide +kernel), List.mem_of_getElem? (i := 1500) (by decide +kernel), List.mem_of_getElem? (i := 1501) (by decide +kernel)⟩
theorem lw_p75 : lw_okq (⟨"OneIsTwoModel", "counts", "(I)Z"⟩, 37) := ⟨⟨by decide +kernel, by decide +kernel⟩, List.mem_of_getElem? (i := 1112) (by decide +kernel), List.mem_of_getElem? (i := 1508) (by decide +kernel), List.mem_of_getElem? (i := 1509) (by decide +kernel)⟩
theorem lw_p76 : lw_okq (⟨"OneIsTwoModel", "bodyOf", "(I)I"⟩, 37) := ⟨⟨by decide +kernel, by decide +kernel⟩, List.mem_of_getElem? (i := 1112) (by decide +kernel), List.mem_of_getElem? (i := 1512) (by decide +kernel), List.mem_of_getElem? (i := 1513) (by decide +kernel)⟩
theorem lw_p77 : lw_okq (⟨"OneIsTwoModel", "tellsApart", "(I)Z"⟩, 37) := ⟨⟨by decide +kernel, by decide +kernel⟩, List.mem_of_getElem? (i := 1112) (by decide +kernel), List.mem_of_getElem? (i := 1527) (by decide +kernel), List.mem_of_getElem? (i := 1528) (by decide +kernel)⟩
theorem lw_p78 : lw_okq (⟨"OneIsTwoModel", "weddedTo", "(I)I"⟩, 37) := ⟨⟨by decide +kernel, by decide +kernel⟩, List.mem_of_getElem? (i := 1112) (by decide +kernel), List.mem_of_getElem? (i := 1535) (by decide +kernel), List.mem_of_getElem? (i := 1536) (by decide +kernel)⟩
theorem lw_p79 : lw_okq (⟨"OneIsTwoModel", "findSides", "(I)V"⟩, 37) := ⟨⟨by decide +kernel, by decide +kernel⟩, List.mem_of_getElem? (i := 1112) (by decide +kernel), List.mem_of_getElem? (i := 1539) (by decide +kernel), List.mem_of_getElem? (i := 1540) (by decide +kernel)⟩
def lw_privs_5 : List (MethodName × Nat) := [(⟨"OneIsTwoModel", "nowAbout", "(II)I"⟩, 37), (⟨"OneIsTwoModel", "newClaim", "(III)I"⟩, 37), (⟨"OneIsTwoModel", "isClaim", "(I)Z"⟩, 37), (⟨"OneIsTwoModel", "findShares", "(I)V"⟩, 37), (⟨"OneIsTwoModel", "nobodyStands", "()V"⟩, 37), (⟨"OneIsTwoModel", "sharesBy", "(II)V"⟩, 37), (⟨"OneIsTwoModel", "moves", "(II)Z"⟩, 37), (⟨"OneIsTwoModel", "goesBy", "(I)V"⟩, 37), (⟨"OneIsTwoModel", "totalOf", "(II)J"⟩, 37), (⟨"OneIsTwoModel", "isDeed", "(I)Z"⟩, 37), (⟨"OneIsTwoModel", "rememberers", "(I)I"⟩, 37), (⟨"OneIsTwoModel", "counts", "(I)Z"⟩, 37), (⟨"OneIsTwoModel", "bodyOf", "(I)I"⟩, 37), (⟨"OneIsTwoModel", "tellsApart", "(I)Z"⟩, 37), (⟨"OneIsTwoModel", "weddedTo", "(I)I"⟩, 37), (⟨"OneIsTwoModel", "findSides", "(I)V"⟩, 37)]
theorem lw_r5 : ∀ q ∈ lw_privs_5, lw_okq q := List.forall_mem_cons.mpr ⟨lw_p64, List.forall_mem_cons.mpr ⟨lw_p65, List.forall_mem_cons.mpr ⟨lw_p66, List.forall_mem_cons.mpr ⟨lw_p67, List.forall_mem_cons.mpr ⟨lw_p68, List.forall_mem_cons.mpr ⟨lw_p69, List.forall_mem_cons.mpr ⟨lw_p70, List.forall_mem_cons.mpr ⟨lw_p71, List.forall_mem_cons.mpr ⟨lw_p72, List.forall_mem_cons.mpr ⟨lw_p73, List.forall_mem_cons.mpr ⟨lw_p74, List.forall_mem_cons.mpr ⟨lw_p75, List.forall_mem_cons.mpr ⟨lw_p76, List.forall_mem_cons.mpr ⟨lw_p77, List.forall_mem_cons.mpr ⟨lw_p78, List.forall_mem_cons.mpr ⟨lw_p79, fun _ h => absurd h List.not_mem_nil⟩⟩⟩⟩⟩⟩⟩⟩⟩⟩⟩⟩⟩⟩⟩⟩
theorem lw_p80 : lw_okq (⟨"OneIsTwoModel", "sideBy", "(III)I"⟩, 37) := ⟨⟨by decide +kernel, by decide +kernel⟩, List.mem_of_getElem? (i := 1112) (by decide +kernel), List.mem_of_getElem? (i := 1543) (by decide +kernel), List.mem_of_getElem? (i := 1544) (by decide +kernel)⟩
theorem lw_p81 : lw_okq (⟨"OneIsTwoModel", "findRoot", "(I)V"⟩, 37) := ⟨⟨by decide +kernel, by decide +kernel⟩, List.mem_of_getElem? (i := 1112) (by decide +kernel), List.mem_of_getElem? (i := 1555) (by decide +kernel), List.mem_of_getElem? (i := 1556) (by decide +kernel)⟩
theorem lw_p82 : lw_okq (⟨"OneIsTwoModel", "voteOf", "(I)I"⟩, 37) := ⟨⟨by decide +kernel, by decide +kernel⟩, List.mem_of_getElem? (i := 1112) (by decide +kernel), List.mem_of_getElem? (i := 1559) (by decide +kernel), List.mem_of_getElem? (i := 1560) (by decide +kernel)⟩
theorem lw_p83 : lw_okq (⟨"OneIsTwoModel", "leaves", "()V"⟩, 37) := ⟨⟨by decide +kernel, by decide +kernel⟩, List.mem_of_getElem? (i := 1112) (by decide +kernel), List.mem_of_getElem? (i := 1572) (by decide +kernel), List.mem_of_getElem? (i := 1573) (by decide +kernel)⟩
theorem lw_p84 : lw_okq (⟨"OneIsTwoModel", "paysBy", "(II)J"⟩, 37) := ⟨⟨by decide +kernel, by decide +kernel⟩, List.mem_of_getElem? (i := 1112) (by decide +kernel), List.mem_of_getElem? (i := 1576) (by decide +kernel), List.mem_of_getElem? (i := 1577) (by decide +kernel)⟩
theorem lw_p85 : lw_okq (⟨"OneIsTwoModel", "returns", "()V"⟩, 37) := ⟨⟨by decide +kernel, by decide +kernel⟩, List.mem_of_getElem? (i := 1112) (by decide +kernel), List.mem_of_getElem? (i := 1580) (by decide +kernel), List.mem_of_getElem? (i := 1581) (by decide +kernel)⟩
theorem lw_p86 : lw_okq (⟨"OneIsTwoModel", "taking", "(II)I"⟩, 37) := ⟨⟨by decide +kernel, by decide +kernel⟩, List.mem_of_getElem? (i := 1112) (by decide +kernel), List.mem_of_getElem? (i := 1634) (by decide +kernel), List.mem_of_getElem? (i := 1635) (by decide +kernel)⟩
theorem lw_p87 : lw_okq (⟨"OneIsTwoModel", "takes", "(I)V"⟩, 37) := ⟨⟨by decide +kernel, by decide +kernel⟩, List.mem_of_getElem? (i := 1112) (by decide +kernel), List.mem_of_getElem? (i := 1655) (by decide +kernel), List.mem_of_getElem? (i := 1656) (by decide +kernel)⟩
theorem lw_p88 : lw_okq (⟨"OneIsTwoModel", "bears", "(I)I"⟩, 37) := ⟨⟨by decide +kernel, by decide +kernel⟩, List.mem_of_getElem? (i := 1112) (by decide +kernel), List.mem_of_getElem? (i := 1666) (by decide +kernel), List.mem_of_getElem? (i := 1667) (by decide +kernel)⟩
theorem lw_p89 : lw_okq (⟨"OneIsTwoModel", "copyBears", "(I)I"⟩, 37) := ⟨⟨by decide +kernel, by decide +kernel⟩, List.mem_of_getElem? (i := 1112) (by decide +kernel), List.mem_of_getElem? (i := 1670) (by decide +kernel), List.mem_of_getElem? (i := 1671) (by decide +kernel)⟩
theorem lw_p90 : lw_okq (⟨"OneIsTwoModel", "ran", "(I)V"⟩, 37) := ⟨⟨by decide +kernel, by decide +kernel⟩, List.mem_of_getElem? (i := 1112) (by decide +kernel), List.mem_of_getElem? (i := 1674) (by decide +kernel), List.mem_of_getElem? (i := 1675) (by decide +kernel)⟩
theorem lw_p91 : lw_okq (⟨"OneIsTwoModel", "anyBears", "(I)I"⟩, 37) := ⟨⟨by decide +kernel, by decide +kernel⟩, List.mem_of_getElem? (i := 1112) (by decide +kernel), List.mem_of_getElem? (i := 1678) (by decide +kernel), List.mem_of_getElem? (i := 1679) (by decide +kernel)⟩
theorem lw_p92 : lw_okq (⟨"OneIsTwoModel", "knows", "(I)I"⟩, 37) := ⟨⟨by decide +kernel, by decide +kernel⟩, List.mem_of_getElem? (i := 1112) (by decide +kernel), List.mem_of_getElem? (i := 1682) (by decide +kernel), List.mem_of_getElem? (i := 1683) (by decide +kernel)⟩
theorem lw_p93 : lw_okq (⟨"OneIsTwoModel", "anyKnows", "(I)I"⟩, 37) := ⟨⟨by decide +kernel, by decide +kernel⟩, List.mem_of_getElem? (i := 1112) (by decide +kernel), List.mem_of_getElem? (i := 1686) (by decide +kernel), List.mem_of_getElem? (i := 1687) (by decide +kernel)⟩
theorem lw_p94 : lw_okq (⟨"OneIsTwoModel", "parts", "(I)I"⟩, 37) := ⟨⟨by decide +kernel, by decide +kernel⟩, List.mem_of_getElem? (i := 1112) (by decide +kernel), List.mem_of_getElem? (i := 1690) (by decide +kernel), List.mem_of_getElem? (i := 1691) (by decide +kernel)⟩
theorem lw_p95 : lw_okq (⟨"OneIsTwoModel", "anyShares", "(I)I"⟩, 37) := ⟨⟨by decide +kernel, by decide +kernel⟩, List.mem_of_getElem? (i := 1112) (by decide +kernel), List.mem_of_getElem? (i := 1694) (by decide +kernel), List.mem_of_getElem? (i := 1695) (by decide +kernel)⟩
def lw_privs_6 : List (MethodName × Nat) := [(⟨"OneIsTwoModel", "sideBy", "(III)I"⟩, 37), (⟨"OneIsTwoModel", "findRoot", "(I)V"⟩, 37), (⟨"OneIsTwoModel", "voteOf", "(I)I"⟩, 37), (⟨"OneIsTwoModel", "leaves", "()V"⟩, 37), (⟨"OneIsTwoModel", "paysBy", "(II)J"⟩, 37), (⟨"OneIsTwoModel", "returns", "()V"⟩, 37), (⟨"OneIsTwoModel", "taking", "(II)I"⟩, 37), (⟨"OneIsTwoModel", "takes", "(I)V"⟩, 37), (⟨"OneIsTwoModel", "bears", "(I)I"⟩, 37), (⟨"OneIsTwoModel", "copyBears", "(I)I"⟩, 37), (⟨"OneIsTwoModel", "ran", "(I)V"⟩, 37), (⟨"OneIsTwoModel", "anyBears", "(I)I"⟩, 37), (⟨"OneIsTwoModel", "knows", "(I)I"⟩, 37), (⟨"OneIsTwoModel", "anyKnows", "(I)I"⟩, 37), (⟨"OneIsTwoModel", "parts", "(I)I"⟩, 37), (⟨"OneIsTwoModel", "anyShares", "(I)I"⟩, 37)]
theorem lw_r6 : ∀ q ∈ lw_privs_6, lw_okq q := List.forall_mem_cons.mpr ⟨lw_p80, List.forall_mem_cons.mpr ⟨lw_p81, List.forall_mem_cons.mpr ⟨lw_p82, List.forall_mem_cons.mpr ⟨lw_p83, List.forall_mem_cons.mpr ⟨lw_p84, List.forall_mem_cons.mpr ⟨lw_p85, List.forall_mem_cons.mpr ⟨lw_p86, List.forall_mem_cons.mpr ⟨lw_p87, List.forall_mem_cons.mpr ⟨lw_p88, List.forall_mem_cons.mpr ⟨lw_p89, List.forall_mem_cons.mpr ⟨lw_p90, List.forall_mem_cons.mpr ⟨lw_p91, List.forall_mem_cons.mpr ⟨lw_p92, List.forall_mem_cons.mpr ⟨lw_p93, List.forall_mem_cons.mpr ⟨lw_p94, List.forall_mem_cons.mpr ⟨lw_p95, fun _ h => absurd h List.not_mem_nil⟩⟩⟩⟩⟩⟩⟩⟩⟩⟩⟩⟩⟩⟩⟩⟩
theorem lw_p96 : lw_okq (⟨"OneIsTwoModel", "tells", "(I)I"⟩, 37) := ⟨⟨by decide +kernel, by decide +kernel⟩, List.mem_of_getElem? (i := 1112) (by decide +kernel), List.mem_of_getElem? (i := 1698) (by decide +kernel), List.mem_of_getElem? (i := 1699) (by decide +kernel)⟩
theorem lw_p97 : lw_okq (⟨"OneIsTwoModel", "anyTells", "(I)I"⟩, 37) := ⟨⟨by decide +kernel, by decide +kernel⟩, List.mem_of_getElem? (i := 1112) (by decide +kernel), List.mem_of_getElem? (i := 1702) (by decide +kernel), List.mem_of_getElem? (i := 1703) (by decide +kernel)⟩
def lw_privs_7 : List (MethodName × Nat) := [(⟨"OneIsTwoModel", "tells", "(I)I"⟩, 37), (⟨"OneIsTwoModel", "anyTells", "(I)I"⟩, 37)]
theorem lw_r7 : ∀ q ∈ lw_privs_7, lw_okq q := List.forall_mem_cons.mpr ⟨lw_p96, List.forall_mem_cons.mpr ⟨lw_p97, fun _ h => absurd h List.not_mem_nil⟩⟩
def lw_privs : List (MethodName × Nat) := lw_privs_1 ++ (lw_privs_2 ++ (lw_privs_3 ++ (lw_privs_4 ++ (lw_privs_5 ++ (lw_privs_6 ++ (lw_privs_7))))))
def lw_tbl : List Cond := k2_sels lw_privs ++ tables_1
theorem lw_privs_ok : ∀ q ∈ lw_privs, lw_okq q := by
  show ∀ q ∈ lw_privs_1 ++ (lw_privs_2 ++ (lw_privs_3 ++ (lw_privs_4 ++ (lw_privs_5 ++ (lw_privs_6 ++ (lw_privs_7)))))), lw_okq q
  exact List.forall_mem_append.mpr ⟨lw_r1, List.forall_mem_append.mpr ⟨lw_r2, List.forall_mem_append.mpr ⟨lw_r3, List.forall_mem_append.mpr ⟨lw_r4, List.forall_mem_append.mpr ⟨lw_r5, List.forall_mem_append.mpr ⟨lw_r6, lw_r7⟩⟩⟩⟩⟩⟩
def RX0 : String := "OneIsTwo$Actor"
def TX0 : u_T := fun k => match k with
  | 0 => ("OneIsTwo$Actor", "bodies", "[I", true)
  | 1 => ("OneIsTwo$Actor", "ran", "I", false)
  | 2 => ("OneIsTwo$Actor", "kind", "I", false)
  | 3 => ("OneIsTwo$Actor", "n", "I", false)
  | 4 => ("OneIsTwo$Actor", "a", "I", false)
  | _ => ("OneIsTwo$Actor", "isByZero", "Z", false)
def tyX0 : Nat → FieldType := fun k => match k with
  | 0 => .array .int
  | 1 => .int
  | 2 => .int
  | 3 => .int
  | 4 => .int
  | _ => .boolean
theorem nmX0 : ∀ a, a < 6 → ∀ b, b < 6 → a ≠ b → (TX0 a).2.1 ≠ (TX0 b).2.1 := by decide +kernel
theorem tyX0_ok : ∀ k, k < 6 → parseFieldDescriptor (TX0 k).2.2.1 = some (tyX0 k) := by decide +kernel
def RX1 : String := "OneIsTwo$Claim"
def TX1 : u_T := fun k => match k with
  | 0 => ("OneIsTwo$Claim", "sort", "I", false)
  | 1 => ("OneIsTwo$Claim", "whose", "I", false)
  | 2 => ("OneIsTwo$Claim", "worth", "I", false)
  | 3 => ("OneIsTwo$Claim", "day", "I", false)
  | _ => ("OneIsTwo$Claim", "after", "I", false)
def tyX1 : Nat → FieldType := fun k => match k with
  | 0 => .int
  | 1 => .int
  | 2 => .int
  | 3 => .int
  | _ => .int
theorem nmX1 : ∀ a, a < 5 → ∀ b, b < 5 → a ≠ b → (TX1 a).2.1 ≠ (TX1 b).2.1 := by decide +kernel
theorem tyX1_ok : ∀ k, k < 5 → parseFieldDescriptor (TX1 k).2.2.1 = some (tyX1 k) := by decide +kernel
def RX2 : String := "OneIsTwo$Event"
def TX2 : u_T := fun k => match k with
  | 0 => ("OneIsTwo$Event", "sort", "I", false)
  | 1 => ("OneIsTwo$Event", "who", "I", false)
  | _ => ("OneIsTwo$Event", "day", "I", false)
def tyX2 : Nat → FieldType := fun k => match k with
  | 0 => .int
  | 1 => .int
  | _ => .int
theorem nmX2 : ∀ a, a < 3 → ∀ b, b < 3 → a ≠ b → (TX2 a).2.1 ≠ (TX2 b).2.1 := by decide +kernel
theorem tyX2_ok : ∀ k, k < 3 → parseFieldDescriptor (TX2 k).2.2.1 = some (tyX2 k) := by decide +kernel
def RX3 : String := "OneIsTwo$Law"
def TX3 : u_T := fun k => match k with
  | 0 => ("OneIsTwo$Law", "keys", "[I", true)
  | 1 => ("OneIsTwo$Law", "values", "[I", true)
  | 2 => ("OneIsTwo$Law", "start", "[I", true)
  | 3 => ("OneIsTwo$Law", "code", "[I", true)
  | _ => ("OneIsTwo$Law", "clauses", "I", false)
def tyX3 : Nat → FieldType := fun k => match k with
  | 0 => .array .int
  | 1 => .array .int
  | 2 => .array .int
  | 3 => .array .int
  | _ => .int
theorem nmX3 : ∀ a, a < 5 → ∀ b, b < 5 → a ≠ b → (TX3 a).2.1 ≠ (TX3 b).2.1 := by decide +kernel
theorem tyX3_ok : ∀ k, k < 5 → parseFieldDescriptor (TX3 k).2.2.1 = some (tyX3 k) := by decide +kernel
def RX4 : String := "OneIsTwo$LawReader"
def TX4 : u_T := fun k => match k with
  | 0 => ("OneIsTwo$LawReader", "read", "LOneIsTwo$Law;", true)
  | 1 => ("OneIsTwo$LawReader", "text", "[B", true)
  | 2 => ("OneIsTwo$LawReader", "size", "I", false)
  | 3 => ("OneIsTwo$LawReader", "at", "I", false)
  | 4 => ("OneIsTwo$LawReader", "after", "I", false)
  | 5 => ("OneIsTwo$LawReader", "token", "I", false)
  | _ => ("OneIsTwo$LawReader", "number", "I", false)
def tyX4 : Nat → FieldType := fun k => match k with
  | 0 => .object "OneIsTwo$Law"
  | 1 => .array .byte
  | 2 => .int
  | 3 => .int
  | 4 => .int
  | 5 => .int
  | _ => .int
theorem nmX4 : ∀ a, a < 7 → ∀ b, b < 7 → a ≠ b → (TX4 a).2.1 ≠ (TX4 b).2.1 := by decide +kernel
theorem tyX4_ok : ∀ k, k < 7 → parseFieldDescriptor (TX4 k).2.2.1 = some (tyX4 k) := by decide +kernel
def RX5 : String := "OneIsTwo$Ledger"
def TX5 : u_T := fun k => match k with
  | 0 => ("OneIsTwo$Ledger", "world", "LOneIsTwo$World;", true)
  | _ => ("OneIsTwo$Ledger", "has", "[J", true)
def tyX5 : Nat → FieldType := fun k => match k with
  | 0 => .object "OneIsTwo$World"
  | _ => .array .long
theorem nmX5 : ∀ a, a < 2 → ∀ b, b < 2 → a ≠ b → (TX5 a).2.1 ≠ (TX5 b).2.1 := by decide +kernel
theorem tyX5_ok : ∀ k, k < 2 → parseFieldDescriptor (TX5 k).2.2.1 = some (tyX5 k) := by decide +kernel
def RX6 : String := "OneIsTwo$Minds"
def TX6 : u_T := fun k => match k with
  | 0 => ("OneIsTwo$Minds", "world", "LOneIsTwo$World;", true)
  | 1 => ("OneIsTwo$Minds", "known", "[I", true)
  | _ => ("OneIsTwo$Minds", "between", "[I", true)
def tyX6 : Nat → FieldType := fun k => match k with
  | 0 => .object "OneIsTwo$World"
  | 1 => .array .int
  | _ => .array .int
theorem nmX6 : ∀ a, a < 3 → ∀ b, b < 3 → a ≠ b → (TX6 a).2.1 ≠ (TX6 b).2.1 := by decide +kernel
theorem tyX6_ok : ∀ k, k < 3 → parseFieldDescriptor (TX6 k).2.2.1 = some (tyX6 k) := by decide +kernel
def RX7 : String := "OneIsTwo$Person"
def TX7 : u_T := fun k => match k with
  | 0 => ("OneIsTwo$Person", "kind", "I", false)
  | 1 => ("OneIsTwo$Person", "told", "I", false)
  | 2 => ("OneIsTwo$Person", "from", "I", false)
  | 3 => ("OneIsTwo$Person", "other", "I", false)
  | 4 => ("OneIsTwo$Person", "day", "I", false)
  | 5 => ("OneIsTwo$Person", "moment", "I", false)
  | 6 => ("OneIsTwo$Person", "part", "I", false)
  | 7 => ("OneIsTwo$Person", "into", "I", false)
  | 8 => ("OneIsTwo$Person", "until", "I", false)
  | 9 => ("OneIsTwo$Person", "leave", "Z", false)
  | 10 => ("OneIsTwo$Person", "isVoid", "Z", false)
  | _ => ("OneIsTwo$Person", "rests", "Z", false)
def tyX7 : Nat → FieldType := fun k => match k with
  | 0 => .int
  | 1 => .int
  | 2 => .int
  | 3 => .int
  | 4 => .int
  | 5 => .int
  | 6 => .int
  | 7 => .int
  | 8 => .int
  | 9 => .boolean
  | 10 => .boolean
  | _ => .boolean
theorem nmX7 : ∀ a, a < 12 → ∀ b, b < 12 → a ≠ b → (TX7 a).2.1 ≠ (TX7 b).2.1 := by decide +kernel
theorem tyX7_ok : ∀ k, k < 12 → parseFieldDescriptor (TX7 k).2.2.1 = some (tyX7 k) := by decide +kernel
def RX8 : String := "OneIsTwo$Sides"
def TX8 : u_T := fun k => match k with
  | _ => ("OneIsTwo$Sides", "world", "LOneIsTwo$World;", true)
def tyX8 : Nat → FieldType := fun k => match k with
  | _ => .object "OneIsTwo$World"
theorem nmX8 : ∀ a, a < 1 → ∀ b, b < 1 → a ≠ b → (TX8 a).2.1 ≠ (TX8 b).2.1 := by decide +kernel
theorem tyX8_ok : ∀ k, k < 1 → parseFieldDescriptor (TX8 k).2.2.1 = some (tyX8 k) := by decide +kernel
def RX9 : String := "OneIsTwo$Wedding"
def TX9 : u_T := fun k => match k with
  | 0 => ("OneIsTwo$Wedding", "one", "I", false)
  | 1 => ("OneIsTwo$Wedding", "two", "I", false)
  | 2 => ("OneIsTwo$Wedding", "day", "I", false)
  | _ => ("OneIsTwo$Wedding", "after", "I", false)
def tyX9 : Nat → FieldType := fun k => match k with
  | 0 => .int
  | 1 => .int
  | 2 => .int
  | _ => .int
theorem nmX9 : ∀ a, a < 4 → ∀ b, b < 4 → a ≠ b → (TX9 a).2.1 ≠ (TX9 b).2.1 := by decide +kernel
theorem tyX9_ok : ∀ k, k < 4 → parseFieldDescriptor (TX9 k).2.2.1 = some (tyX9 k) := by decide +kernel
def RX10 : String := "OneIsTwo$World"
def TX10 : u_T := fun k => match k with
  | 0 => ("OneIsTwo$World", "persons", "[LOneIsTwo$Person;", true)
  | 1 => ("OneIsTwo$World", "events", "[LOneIsTwo$Event;", true)
  | 2 => ("OneIsTwo$World", "claims", "[LOneIsTwo$Claim;", true)
  | 3 => ("OneIsTwo$World", "weddings", "[LOneIsTwo$Wedding;", true)
  | 4 => ("OneIsTwo$World", "deedOf", "[I", true)
  | 5 => ("OneIsTwo$World", "deedDay", "[I", true)
  | 6 => ("OneIsTwo$World", "law", "LOneIsTwo$Law;", true)
  | 7 => ("OneIsTwo$World", "facts", "[I", true)
  | 8 => ("OneIsTwo$World", "day", "I", false)
  | 9 => ("OneIsTwo$World", "people", "I", false)
  | 10 => ("OneIsTwo$World", "happened", "I", false)
  | 11 => ("OneIsTwo$World", "claimed", "I", false)
  | 12 => ("OneIsTwo$World", "wedded", "I", false)
  | 13 => ("OneIsTwo$World", "done", "I", false)
  | _ => ("OneIsTwo$World", "z", "I", false)
def tyX10 : Nat → FieldType := fun k => match k with
  | 0 => .array (.object "OneIsTwo$Person")
  | 1 => .array (.object "OneIsTwo$Event")
  | 2 => .array (.object "OneIsTwo$Claim")
  | 3 => .array (.object "OneIsTwo$Wedding")
  | 4 => .array .int
  | 5 => .array .int
  | 6 => .object "OneIsTwo$Law"
  | 7 => .array .int
  | 8 => .int
  | 9 => .int
  | 10 => .int
  | 11 => .int
  | 12 => .int
  | 13 => .int
  | _ => .int
theorem nmX10 : ∀ a, a < 15 → ∀ b, b < 15 → a ≠ b → (TX10 a).2.1 ≠ (TX10 b).2.1 := by decide +kernel
theorem tyX10_ok : ∀ k, k < 15 → parseFieldDescriptor (TX10 k).2.2.1 = some (tyX10 k) := by decide +kernel
def RX11 : String := "OneIsTwo"
def TX11 : u_T := fun k => match k with
  | 0 => ("OneIsTwo", "now", "LOneIsTwo$World;", true)
  | 1 => ("OneIsTwo", "kept", "LOneIsTwo$World;", true)
  | 2 => ("OneIsTwo", "trial", "LOneIsTwo$World;", true)
  | 3 => ("OneIsTwo", "ledger", "LOneIsTwo$Ledger;", true)
  | 4 => ("OneIsTwo", "trialLedger", "LOneIsTwo$Ledger;", true)
  | 5 => ("OneIsTwo", "sides", "LOneIsTwo$Sides;", true)
  | 6 => ("OneIsTwo", "minds", "LOneIsTwo$Minds;", true)
  | 7 => ("OneIsTwo", "tape", "[B", true)
  | 8 => ("OneIsTwo", "reader", "LOneIsTwo$LawReader;", true)
  | 9 => ("OneIsTwo", "actor", "LOneIsTwo$Actor;", true)
  | 10 => ("OneIsTwo", "rows", "[[J", true)
  | 11 => ("OneIsTwo", "sheetItems", "[[I", true)
  | 12 => ("OneIsTwo", "sheetSort", "[I", true)
  | 13 => ("OneIsTwo", "sheetSize", "[I", true)
  | 14 => ("OneIsTwo", "shelfHolds", "[I", true)
  | 15 => ("OneIsTwo", "shelfNumber", "[I", true)
  | 16 => ("OneIsTwo", "isKept", "Z", false)
  | 17 => ("OneIsTwo", "fed", "I", false)
  | _ => ("OneIsTwo", "proved", "I", false)
def tyX11 : Nat → FieldType := fun k => match k with
  | 0 => .object "OneIsTwo$World"
  | 1 => .object "OneIsTwo$World"
  | 2 => .object "OneIsTwo$World"
  | 3 => .object "OneIsTwo$Ledger"
  | 4 => .object "OneIsTwo$Ledger"
  | 5 => .object "OneIsTwo$Sides"
  | 6 => .object "OneIsTwo$Minds"
  | 7 => .array .byte
  | 8 => .object "OneIsTwo$LawReader"
  | 9 => .object "OneIsTwo$Actor"
  | 10 => .array (.array .long)
  | 11 => .array (.array .int)
  | 12 => .array .int
  | 13 => .array .int
  | 14 => .array .int
  | 15 => .array .int
  | 16 => .boolean
  | 17 => .int
  | _ => .int
theorem nmX11 : ∀ a, a < 19 → ∀ b, b < 19 → a ≠ b → (TX11 a).2.1 ≠ (TX11 b).2.1 := by decide +kernel
theorem tyX11_ok : ∀ k, k < 19 → parseFieldDescriptor (TX11 k).2.2.1 = some (tyX11 k) := by decide +kernel
def RX12 : String := "OneIsTwoModel"
def TX12 : u_T := fun k => match k with
  | 0 => ("OneIsTwoModel", "s", "[I", true)
  | 1 => ("OneIsTwoModel", "keptS", "[I", true)
  | 2 => ("OneIsTwoModel", "other", "[I", true)
  | 3 => ("OneIsTwoModel", "isKept", "Z", false)
  | 4 => ("OneIsTwoModel", "tape", "[I", true)
  | 5 => ("OneIsTwoModel", "code", "[I", true)
  | 6 => ("OneIsTwoModel", "clause", "[I", true)
  | 7 => ("OneIsTwoModel", "taped", "I", false)
  | 8 => ("OneIsTwoModel", "from", "I", false)
  | 9 => ("OneIsTwoModel", "to", "I", false)
  | 10 => ("OneIsTwoModel", "open", "I", false)
  | 11 => ("OneIsTwoModel", "steps", "I", false)
  | 12 => ("OneIsTwoModel", "clauses", "I", false)
  | 13 => ("OneIsTwoModel", "isWrong", "Z", false)
  | 14 => ("OneIsTwoModel", "facts", "[I", true)
  | 15 => ("OneIsTwoModel", "pile", "[I", true)
  | 16 => ("OneIsTwoModel", "standing", "[I", true)
  | 17 => ("OneIsTwoModel", "shares", "[J", true)
  | 18 => ("OneIsTwoModel", "known", "[I", true)
  | 19 => ("OneIsTwoModel", "sideA", "I", false)
  | 20 => ("OneIsTwoModel", "sideB", "I", false)
  | 21 => ("OneIsTwoModel", "rootMany", "I", false)
  | 22 => ("OneIsTwoModel", "rootLeast", "I", false)
  | 23 => ("OneIsTwoModel", "rows", "[J", true)
  | 24 => ("OneIsTwoModel", "rowMany", "I", false)
  | 25 => ("OneIsTwoModel", "sortOf", "[I", true)
  | 26 => ("OneIsTwoModel", "sizeOf", "[I", true)
  | 27 => ("OneIsTwoModel", "item", "[I", true)
  | 28 => ("OneIsTwoModel", "shelfWhat", "[I", true)
  | 29 => ("OneIsTwoModel", "shelfThing", "[I", true)
  | 30 => ("OneIsTwoModel", "shelfSize", "[I", true)
  | 31 => ("OneIsTwoModel", "kind", "I", false)
  | 32 => ("OneIsTwoModel", "number", "I", false)
  | 33 => ("OneIsTwoModel", "about", "I", false)
  | 34 => ("OneIsTwoModel", "traced", "[I", true)
  | 35 => ("OneIsTwoModel", "bodies", "I", false)
  | _ => ("OneIsTwoModel", "isParted", "Z", false)
def tyX12 : Nat → FieldType := fun k => match k with
  | 0 => .array .int
  | 1 => .array .int
  | 2 => .array .int
  | 3 => .boolean
  | 4 => .array .int
  | 5 => .array .int
  | 6 => .array .int
  | 7 => .int
  | 8 => .int
  | 9 => .int
  | 10 => .int
  | 11 => .int
  | 12 => .int
  | 13 => .boolean
  | 14 => .array .int
  | 15 => .array .int
  | 16 => .array .int
  | 17 => .array .long
  | 18 => .array .int
  | 19 => .int
  | 20 => .int
  | 21 => .int
  | 22 => .int
  | 23 => .array .long
  | 24 => .int
  | 25 => .array .int
  | 26 => .array .int
  | 27 => .array .int
  | 28 => .array .int
  | 29 => .array .int
  | 30 => .array .int
  | 31 => .int
  | 32 => .int
  | 33 => .int
  | 34 => .array .int
  | 35 => .int
  | _ => .boolean
theorem nmX12 : ∀ a, a < 37 → ∀ b, b < 37 → a ≠ b → (TX12 a).2.1 ≠ (TX12 b).2.1 := by decide +kernel
theorem tyX12_ok : ∀ k, k < 37 → parseFieldDescriptor (TX12 k).2.2.1 = some (tyX12 k) := by decide +kernel
abbrev vwCl : List vw_C := [(RX0, TX0, 6), (RX1, TX1, 5), (RX2, TX2, 3), (RX3, TX3, 5), (RX4, TX4, 7), (RX5, TX5, 2), (RX6, TX6, 3), (RX7, TX7, 12), (RX8, TX8, 1), (RX9, TX9, 4), (RX10, TX10, 15), (RX11, TX11, 19), (RX12, TX12, 37)]
