section
-- ===== PART A: goes FIRST, ahead of the names: the tables' words, and 'selects' of the private methods out of them =====
/-- a private method of a class that the tables say can be made, by its rows of tables_1 -/
def lw_okq (q : MethodName × Nat) : Prop := (q.1.cls ≠ "java/lang/invoke/MethodHandle" ∧ q.1.cls ≠ "java/lang/invoke/VarHandle") ∧ Cond.instantiable q.1.cls q.2 ∈ tables_1 ∧ Cond.privateMethod q.1 ∈ tables_1 ∧ Cond.instanceMethod q.1 ∈ tables_1
theorem lw_p0 : lw_okq (⟨"OneIsTwo$World", "come", "(II)I"⟩, 15) := ⟨⟨by decide +kernel, by decide +kernel⟩, List.mem_of_getElem? (i := 30) (by decide +kernel), List.mem_of_getElem? (i := 486) (by decide +kernel), List.mem_of_getElem? (i := 487) (by decide +kernel)⟩
theorem lw_p1 : lw_okq (⟨"OneIsTwo$World", "tell", "(II)V"⟩, 15) := ⟨⟨by decide +kernel, by decide +kernel⟩, List.mem_of_getElem? (i := 30) (by decide +kernel), List.mem_of_getElem? (i := 495) (by decide +kernel), List.mem_of_getElem? (i := 496) (by decide +kernel)⟩
theorem lw_p2 : lw_okq (⟨"OneIsTwo$World", "settle", "(I)V"⟩, 15) := ⟨⟨by decide +kernel, by decide +kernel⟩, List.mem_of_getElem? (i := 30) (by decide +kernel), List.mem_of_getElem? (i := 522) (by decide +kernel), List.mem_of_getElem? (i := 523) (by decide +kernel)⟩
theorem lw_p3 : lw_okq (⟨"OneIsTwo$Law", "holds", "(I[I)Z"⟩, 5) := ⟨⟨by decide +kernel, by decide +kernel⟩, List.mem_of_getElem? (i := 44) (by decide +kernel), List.mem_of_getElem? (i := 535) (by decide +kernel), List.mem_of_getElem? (i := 536) (by decide +kernel)⟩
theorem lw_p4 : lw_okq (⟨"OneIsTwo$World", "goAway", "(II)V"⟩, 15) := ⟨⟨by decide +kernel, by decide +kernel⟩, List.mem_of_getElem? (i := 30) (by decide +kernel), List.mem_of_getElem? (i := 558) (by decide +kernel), List.mem_of_getElem? (i := 559) (by decide +kernel)⟩
theorem lw_p5 : lw_okq (⟨"OneIsTwo$LawReader", "next", "()V"⟩, 7) := ⟨⟨by decide +kernel, by decide +kernel⟩, List.mem_of_getElem? (i := 344) (by decide +kernel), List.mem_of_getElem? (i := 615) (by decide +kernel), List.mem_of_getElem? (i := 616) (by decide +kernel)⟩
theorem lw_p6 : lw_okq (⟨"OneIsTwo$LawReader", "readNumber", "()V"⟩, 7) := ⟨⟨by decide +kernel, by decide +kernel⟩, List.mem_of_getElem? (i := 344) (by decide +kernel), List.mem_of_getElem? (i := 625) (by decide +kernel), List.mem_of_getElem? (i := 626) (by decide +kernel)⟩
theorem lw_p7 : lw_okq (⟨"OneIsTwo$LawReader", "placeAmong", "(Ljava/lang/String;)I"⟩, 7) := ⟨⟨by decide +kernel, by decide +kernel⟩, List.mem_of_getElem? (i := 344) (by decide +kernel), List.mem_of_getElem? (i := 638) (by decide +kernel), List.mem_of_getElem? (i := 639) (by decide +kernel)⟩
theorem lw_p8 : lw_okq (⟨"OneIsTwo$LawReader", "isWord", "(Ljava/lang/String;)Z"⟩, 7) := ⟨⟨by decide +kernel, by decide +kernel⟩, List.mem_of_getElem? (i := 344) (by decide +kernel), List.mem_of_getElem? (i := 700) (by decide +kernel), List.mem_of_getElem? (i := 701) (by decide +kernel)⟩
theorem lw_p9 : lw_okq (⟨"OneIsTwo$LawReader", "readAnyOf", "(I)Z"⟩, 7) := ⟨⟨by decide +kernel, by decide +kernel⟩, List.mem_of_getElem? (i := 344) (by decide +kernel), List.mem_of_getElem? (i := 704) (by decide +kernel), List.mem_of_getElem? (i := 705) (by decide +kernel)⟩
theorem lw_p10 : lw_okq (⟨"OneIsTwo$LawReader", "readAllOf", "(I)Z"⟩, 7) := ⟨⟨by decide +kernel, by decide +kernel⟩, List.mem_of_getElem? (i := 344) (by decide +kernel), List.mem_of_getElem? (i := 708) (by decide +kernel), List.mem_of_getElem? (i := 709) (by decide +kernel)⟩
theorem lw_p11 : lw_okq (⟨"OneIsTwo$LawReader", "readOne", "(I)Z"⟩, 7) := ⟨⟨by decide +kernel, by decide +kernel⟩, List.mem_of_getElem? (i := 344) (by decide +kernel), List.mem_of_getElem? (i := 712) (by decide +kernel), List.mem_of_getElem? (i := 713) (by decide +kernel)⟩
theorem lw_p12 : lw_okq (⟨"OneIsTwo$LawReader", "readComparison", "()Z"⟩, 7) := ⟨⟨by decide +kernel, by decide +kernel⟩, List.mem_of_getElem? (i := 344) (by decide +kernel), List.mem_of_getElem? (i := 717) (by decide +kernel), List.mem_of_getElem? (i := 718) (by decide +kernel)⟩
theorem lw_p13 : lw_okq (⟨"OneIsTwo$LawReader", "operand", "()I"⟩, 7) := ⟨⟨by decide +kernel, by decide +kernel⟩, List.mem_of_getElem? (i := 344) (by decide +kernel), List.mem_of_getElem? (i := 721) (by decide +kernel), List.mem_of_getElem? (i := 722) (by decide +kernel)⟩
theorem lw_p14 : lw_okq (⟨"OneIsTwo$Ledger", "give", "(II)V"⟩, 2) := ⟨⟨by decide +kernel, by decide +kernel⟩, List.mem_of_getElem? (i := 302) (by decide +kernel), List.mem_of_getElem? (i := 791) (by decide +kernel), List.mem_of_getElem? (i := 792) (by decide +kernel)⟩
theorem lw_p15 : lw_okq (⟨"OneIsTwo$Ledger", "part", "(ILOneIsTwo$Event;)V"⟩, 2) := ⟨⟨by decide +kernel, by decide +kernel⟩, List.mem_of_getElem? (i := 302) (by decide +kernel), List.mem_of_getElem? (i := 803) (by decide +kernel), List.mem_of_getElem? (i := 804) (by decide +kernel)⟩
def lw_privs_1 : List (MethodName × Nat) := [(⟨"OneIsTwo$World", "come", "(II)I"⟩, 15), (⟨"OneIsTwo$World", "tell", "(II)V"⟩, 15), (⟨"OneIsTwo$World", "settle", "(I)V"⟩, 15), (⟨"OneIsTwo$Law", "holds", "(I[I)Z"⟩, 5), (⟨"OneIsTwo$World", "goAway", "(II)V"⟩, 15), (⟨"OneIsTwo$LawReader", "next", "()V"⟩, 7), (⟨"OneIsTwo$LawReader", "readNumber", "()V"⟩, 7), (⟨"OneIsTwo$LawReader", "placeAmong", "(Ljava/lang/String;)I"⟩, 7), (⟨"OneIsTwo$LawReader", "isWord", "(Ljava/lang/String;)Z"⟩, 7), (⟨"OneIsTwo$LawReader", "readAnyOf", "(I)Z"⟩, 7), (⟨"OneIsTwo$LawReader", "readAllOf", "(I)Z"⟩, 7), (⟨"OneIsTwo$LawReader", "readOne", "(I)Z"⟩, 7), (⟨"OneIsTwo$LawReader", "readComparison", "()Z"⟩, 7), (⟨"OneIsTwo$LawReader", "operand", "()I"⟩, 7), (⟨"OneIsTwo$Ledger", "give", "(II)V"⟩, 2), (⟨"OneIsTwo$Ledger", "part", "(ILOneIsTwo$Event;)V"⟩, 2)]
theorem lw_r1 : ∀ q ∈ lw_privs_1, lw_okq q := List.forall_mem_cons.mpr ⟨lw_p0, List.forall_mem_cons.mpr ⟨lw_p1, List.forall_mem_cons.mpr ⟨lw_p2, List.forall_mem_cons.mpr ⟨lw_p3, List.forall_mem_cons.mpr ⟨lw_p4, List.forall_mem_cons.mpr ⟨lw_p5, List.forall_mem_cons.mpr ⟨lw_p6, List.forall_mem_cons.mpr ⟨lw_p7, List.forall_mem_cons.mpr ⟨lw_p8, List.forall_mem_cons.mpr ⟨lw_p9, List.forall_mem_cons.mpr ⟨lw_p10, List.forall_mem_cons.mpr ⟨lw_p11, List.forall_mem_cons.mpr ⟨lw_p12, List.forall_mem_cons.mpr ⟨lw_p13, List.forall_mem_cons.mpr ⟨lw_p14, List.forall_mem_cons.mpr ⟨lw_p15, fun _ h => absurd h List.not_mem_nil⟩⟩⟩⟩⟩⟩⟩⟩⟩⟩⟩⟩⟩⟩⟩⟩
theorem lw_p16 : lw_okq (⟨"OneIsTwo$Minds", "toldUpTo", "(I)I"⟩, 3) := ⟨⟨by decide +kernel, by decide +kernel⟩, List.mem_of_getElem? (i := 327) (by decide +kernel), List.mem_of_getElem? (i := 843) (by decide +kernel), List.mem_of_getElem? (i := 844) (by decide +kernel)⟩
theorem lw_p17 : lw_okq (⟨"OneIsTwo$Minds", "allWhoKnow", "(I)I"⟩, 3) := ⟨⟨by decide +kernel, by decide +kernel⟩, List.mem_of_getElem? (i := 327) (by decide +kernel), List.mem_of_getElem? (i := 856) (by decide +kernel), List.mem_of_getElem? (i := 857) (by decide +kernel)⟩
theorem lw_p18 : lw_okq (⟨"OneIsTwo$Minds", "isCounted", "(I)Z"⟩, 3) := ⟨⟨by decide +kernel, by decide +kernel⟩, List.mem_of_getElem? (i := 327) (by decide +kernel), List.mem_of_getElem? (i := 861) (by decide +kernel), List.mem_of_getElem? (i := 862) (by decide +kernel)⟩
theorem lw_p19 : lw_okq (⟨"OneIsTwo$Minds", "unlessEnded", "(I)I"⟩, 3) := ⟨⟨by decide +kernel, by decide +kernel⟩, List.mem_of_getElem? (i := 327) (by decide +kernel), List.mem_of_getElem? (i := 867) (by decide +kernel), List.mem_of_getElem? (i := 868) (by decide +kernel)⟩
theorem lw_p20 : lw_okq (⟨"OneIsTwo$Minds", "bodyOf", "(I)I"⟩, 3) := ⟨⟨by decide +kernel, by decide +kernel⟩, List.mem_of_getElem? (i := 327) (by decide +kernel), List.mem_of_getElem? (i := 872) (by decide +kernel), List.mem_of_getElem? (i := 873) (by decide +kernel)⟩
theorem lw_p21 : lw_okq (⟨"OneIsTwo$Sides", "follow", "(LOneIsTwo$Wedding;I)I"⟩, 1) := ⟨⟨by decide +kernel, by decide +kernel⟩, List.mem_of_getElem? (i := 317) (by decide +kernel), List.mem_of_getElem? (i := 884) (by decide +kernel), List.mem_of_getElem? (i := 885) (by decide +kernel)⟩
theorem lw_p22 : lw_okq (⟨"OneIsTwo$Sides", "withCopy", "(ILOneIsTwo$Event;)I"⟩, 1) := ⟨⟨by decide +kernel, by decide +kernel⟩, List.mem_of_getElem? (i := 317) (by decide +kernel), List.mem_of_getElem? (i := 889) (by decide +kernel), List.mem_of_getElem? (i := 890) (by decide +kernel)⟩
theorem lw_p23 : lw_okq (⟨"OneIsTwo$Minds", "findApart", "()I"⟩, 3) := ⟨⟨by decide +kernel, by decide +kernel⟩, List.mem_of_getElem? (i := 327) (by decide +kernel), List.mem_of_getElem? (i := 939) (by decide +kernel), List.mem_of_getElem? (i := 940) (by decide +kernel)⟩
theorem lw_p24 : lw_okq (⟨"OneIsTwo$Minds", "tellApart", "(II)Z"⟩, 3) := ⟨⟨by decide +kernel, by decide +kernel⟩, List.mem_of_getElem? (i := 327) (by decide +kernel), List.mem_of_getElem? (i := 949) (by decide +kernel), List.mem_of_getElem? (i := 950) (by decide +kernel)⟩
theorem lw_p25 : lw_okq (⟨"OneIsTwo", "tryChoice", "(II)I"⟩, 19) := ⟨⟨by decide +kernel, by decide +kernel⟩, List.mem_of_getElem? (i := 22) (by decide +kernel), List.mem_of_getElem? (i := 960) (by decide +kernel), List.mem_of_getElem? (i := 961) (by decide +kernel)⟩
theorem lw_p26 : lw_okq (⟨"OneIsTwo", "isRowPlace", "(II)Z"⟩, 19) := ⟨⟨by decide +kernel, by decide +kernel⟩, List.mem_of_getElem? (i := 22) (by decide +kernel), List.mem_of_getElem? (i := 999) (by decide +kernel), List.mem_of_getElem? (i := 1000) (by decide +kernel)⟩
theorem lw_p27 : lw_okq (⟨"OneIsTwo", "isRightRow", "(II)Z"⟩, 19) := ⟨⟨by decide +kernel, by decide +kernel⟩, List.mem_of_getElem? (i := 22) (by decide +kernel), List.mem_of_getElem? (i := 1016) (by decide +kernel), List.mem_of_getElem? (i := 1017) (by decide +kernel)⟩
theorem lw_p28 : lw_okq (⟨"OneIsTwo", "lay", "(III)I"⟩, 19) := ⟨⟨by decide +kernel, by decide +kernel⟩, List.mem_of_getElem? (i := 22) (by decide +kernel), List.mem_of_getElem? (i := 1050) (by decide +kernel), List.mem_of_getElem? (i := 1051) (by decide +kernel)⟩
theorem lw_p29 : lw_okq (⟨"OneIsTwo", "layRow", "(II)I"⟩, 19) := ⟨⟨by decide +kernel, by decide +kernel⟩, List.mem_of_getElem? (i := 22) (by decide +kernel), List.mem_of_getElem? (i := 1054) (by decide +kernel), List.mem_of_getElem? (i := 1055) (by decide +kernel)⟩
theorem lw_p30 : lw_okq (⟨"OneIsTwo", "heldOn", "(I)I"⟩, 19) := ⟨⟨by decide +kernel, by decide +kernel⟩, List.mem_of_getElem? (i := 22) (by decide +kernel), List.mem_of_getElem? (i := 1062) (by decide +kernel), List.mem_of_getElem? (i := 1063) (by decide +kernel)⟩
theorem lw_p31 : lw_okq (⟨"OneIsTwo", "kindOn", "(I)I"⟩, 19) := ⟨⟨by decide +kernel, by decide +kernel⟩, List.mem_of_getElem? (i := 22) (by decide +kernel), List.mem_of_getElem? (i := 1066) (by decide +kernel), List.mem_of_getElem? (i := 1067) (by decide +kernel)⟩
def lw_privs_2 : List (MethodName × Nat) := [(⟨"OneIsTwo$Minds", "toldUpTo", "(I)I"⟩, 3), (⟨"OneIsTwo$Minds", "allWhoKnow", "(I)I"⟩, 3), (⟨"OneIsTwo$Minds", "isCounted", "(I)Z"⟩, 3), (⟨"OneIsTwo$Minds", "unlessEnded", "(I)I"⟩, 3), (⟨"OneIsTwo$Minds", "bodyOf", "(I)I"⟩, 3), (⟨"OneIsTwo$Sides", "follow", "(LOneIsTwo$Wedding;I)I"⟩, 1), (⟨"OneIsTwo$Sides", "withCopy", "(ILOneIsTwo$Event;)I"⟩, 1), (⟨"OneIsTwo$Minds", "findApart", "()I"⟩, 3), (⟨"OneIsTwo$Minds", "tellApart", "(II)Z"⟩, 3), (⟨"OneIsTwo", "tryChoice", "(II)I"⟩, 19), (⟨"OneIsTwo", "isRowPlace", "(II)Z"⟩, 19), (⟨"OneIsTwo", "isRightRow", "(II)Z"⟩, 19), (⟨"OneIsTwo", "lay", "(III)I"⟩, 19), (⟨"OneIsTwo", "layRow", "(II)I"⟩, 19), (⟨"OneIsTwo", "heldOn", "(I)I"⟩, 19), (⟨"OneIsTwo", "kindOn", "(I)I"⟩, 19)]
theorem lw_r2 : ∀ q ∈ lw_privs_2, lw_okq q := List.forall_mem_cons.mpr ⟨lw_p16, List.forall_mem_cons.mpr ⟨lw_p17, List.forall_mem_cons.mpr ⟨lw_p18, List.forall_mem_cons.mpr ⟨lw_p19, List.forall_mem_cons.mpr ⟨lw_p20, List.forall_mem_cons.mpr ⟨lw_p21, List.forall_mem_cons.mpr ⟨lw_p22, List.forall_mem_cons.mpr ⟨lw_p23, List.forall_mem_cons.mpr ⟨lw_p24, List.forall_mem_cons.mpr ⟨lw_p25, List.forall_mem_cons.mpr ⟨lw_p26, List.forall_mem_cons.mpr ⟨lw_p27, List.forall_mem_cons.mpr ⟨lw_p28, List.forall_mem_cons.mpr ⟨lw_p29, List.forall_mem_cons.mpr ⟨lw_p30, List.forall_mem_cons.mpr ⟨lw_p31, fun _ h => absurd h List.not_mem_nil⟩⟩⟩⟩⟩⟩⟩⟩⟩⟩⟩⟩⟩⟩⟩⟩
theorem lw_p32 : lw_okq (⟨"OneIsTwo$Actor", "run", "(III)I"⟩, 6) := ⟨⟨by decide +kernel, by decide +kernel⟩, List.mem_of_getElem? (i := 377) (by decide +kernel), List.mem_of_getElem? (i := 1093) (by decide +kernel), List.mem_of_getElem? (i := 1094) (by decide +kernel)⟩
theorem lw_p33 : lw_okq (⟨"OneIsTwo$Actor", "parted", "(I)I"⟩, 6) := ⟨⟨by decide +kernel, by decide +kernel⟩, List.mem_of_getElem? (i := 377) (by decide +kernel), List.mem_of_getElem? (i := 1097) (by decide +kernel), List.mem_of_getElem? (i := 1098) (by decide +kernel)⟩
theorem lw_p34 : lw_okq (⟨"OneIsTwoModel", "hasRoom", "()Z"⟩, 37) := ⟨⟨by decide +kernel, by decide +kernel⟩, List.mem_of_getElem? (i := 1117) (by decide +kernel), List.mem_of_getElem? (i := 1247) (by decide +kernel), List.mem_of_getElem? (i := 1248) (by decide +kernel)⟩
theorem lw_p35 : lw_okq (⟨"OneIsTwoModel", "comes", "(IIII)I"⟩, 37) := ⟨⟨by decide +kernel, by decide +kernel⟩, List.mem_of_getElem? (i := 1117) (by decide +kernel), List.mem_of_getElem? (i := 1251) (by decide +kernel), List.mem_of_getElem? (i := 1252) (by decide +kernel)⟩
theorem lw_p36 : lw_okq (⟨"OneIsTwoModel", "event", "(II)V"⟩, 37) := ⟨⟨by decide +kernel, by decide +kernel⟩, List.mem_of_getElem? (i := 1117) (by decide +kernel), List.mem_of_getElem? (i := 1255) (by decide +kernel), List.mem_of_getElem? (i := 1256) (by decide +kernel)⟩
theorem lw_p37 : lw_okq (⟨"OneIsTwoModel", "isPerson", "(I)Z"⟩, 37) := ⟨⟨by decide +kernel, by decide +kernel⟩, List.mem_of_getElem? (i := 1117) (by decide +kernel), List.mem_of_getElem? (i := 1263) (by decide +kernel), List.mem_of_getElem? (i := 1264) (by decide +kernel)⟩
theorem lw_p38 : lw_okq (⟨"OneIsTwoModel", "isAwake", "(I)Z"⟩, 37) := ⟨⟨by decide +kernel, by decide +kernel⟩, List.mem_of_getElem? (i := 1117) (by decide +kernel), List.mem_of_getElem? (i := 1268) (by decide +kernel), List.mem_of_getElem? (i := 1269) (by decide +kernel)⟩
theorem lw_p39 : lw_okq (⟨"OneIsTwoModel", "of", "(II)I"⟩, 37) := ⟨⟨by decide +kernel, by decide +kernel⟩, List.mem_of_getElem? (i := 1117) (by decide +kernel), List.mem_of_getElem? (i := 1272) (by decide +kernel), List.mem_of_getElem? (i := 1273) (by decide +kernel)⟩
theorem lw_p40 : lw_okq (⟨"OneIsTwoModel", "copies", "(IIIIZ)I"⟩, 37) := ⟨⟨by decide +kernel, by decide +kernel⟩, List.mem_of_getElem? (i := 1117) (by decide +kernel), List.mem_of_getElem? (i := 1277) (by decide +kernel), List.mem_of_getElem? (i := 1278) (by decide +kernel)⟩
theorem lw_p41 : lw_okq (⟨"OneIsTwoModel", "joins", "(II)I"⟩, 37) := ⟨⟨by decide +kernel, by decide +kernel⟩, List.mem_of_getElem? (i := 1117) (by decide +kernel), List.mem_of_getElem? (i := 1289) (by decide +kernel), List.mem_of_getElem? (i := 1290) (by decide +kernel)⟩
theorem lw_p42 : lw_okq (⟨"OneIsTwoModel", "ends", "(I)V"⟩, 37) := ⟨⟨by decide +kernel, by decide +kernel⟩, List.mem_of_getElem? (i := 1117) (by decide +kernel), List.mem_of_getElem? (i := 1297) (by decide +kernel), List.mem_of_getElem? (i := 1298) (by decide +kernel)⟩
theorem lw_p43 : lw_okq (⟨"OneIsTwoModel", "awakeMany", "()I"⟩, 37) := ⟨⟨by decide +kernel, by decide +kernel⟩, List.mem_of_getElem? (i := 1117) (by decide +kernel), List.mem_of_getElem? (i := 1301) (by decide +kernel), List.mem_of_getElem? (i := 1302) (by decide +kernel)⟩
theorem lw_p44 : lw_okq (⟨"OneIsTwoModel", "isVoid", "(I)Z"⟩, 37) := ⟨⟨by decide +kernel, by decide +kernel⟩, List.mem_of_getElem? (i := 1117) (by decide +kernel), List.mem_of_getElem? (i := 1310) (by decide +kernel), List.mem_of_getElem? (i := 1311) (by decide +kernel)⟩
theorem lw_p45 : lw_okq (⟨"OneIsTwoModel", "isCopy", "(I)Z"⟩, 37) := ⟨⟨by decide +kernel, by decide +kernel⟩, List.mem_of_getElem? (i := 1117) (by decide +kernel), List.mem_of_getElem? (i := 1314) (by decide +kernel), List.mem_of_getElem? (i := 1315) (by decide +kernel)⟩
theorem lw_p46 : lw_okq (⟨"OneIsTwoModel", "onEvent", "(III)I"⟩, 37) := ⟨⟨by decide +kernel, by decide +kernel⟩, List.mem_of_getElem? (i := 1117) (by decide +kernel), List.mem_of_getElem? (i := 1318) (by decide +kernel), List.mem_of_getElem? (i := 1319) (by decide +kernel)⟩
theorem lw_p47 : lw_okq (⟨"OneIsTwoModel", "byFacts", "(I)I"⟩, 37) := ⟨⟨by decide +kernel, by decide +kernel⟩, List.mem_of_getElem? (i := 1117) (by decide +kernel), List.mem_of_getElem? (i := 1322) (by decide +kernel), List.mem_of_getElem? (i := 1323) (by decide +kernel)⟩
def lw_privs_3 : List (MethodName × Nat) := [(⟨"OneIsTwo$Actor", "run", "(III)I"⟩, 6), (⟨"OneIsTwo$Actor", "parted", "(I)I"⟩, 6), (⟨"OneIsTwoModel", "hasRoom", "()Z"⟩, 37), (⟨"OneIsTwoModel", "comes", "(IIII)I"⟩, 37), (⟨"OneIsTwoModel", "event", "(II)V"⟩, 37), (⟨"OneIsTwoModel", "isPerson", "(I)Z"⟩, 37), (⟨"OneIsTwoModel", "isAwake", "(I)Z"⟩, 37), (⟨"OneIsTwoModel", "of", "(II)I"⟩, 37), (⟨"OneIsTwoModel", "copies", "(IIIIZ)I"⟩, 37), (⟨"OneIsTwoModel", "joins", "(II)I"⟩, 37), (⟨"OneIsTwoModel", "ends", "(I)V"⟩, 37), (⟨"OneIsTwoModel", "awakeMany", "()I"⟩, 37), (⟨"OneIsTwoModel", "isVoid", "(I)Z"⟩, 37), (⟨"OneIsTwoModel", "isCopy", "(I)Z"⟩, 37), (⟨"OneIsTwoModel", "onEvent", "(III)I"⟩, 37), (⟨"OneIsTwoModel", "byFacts", "(I)I"⟩, 37)]
theorem lw_r3 : ∀ q ∈ lw_privs_3, lw_okq q := List.forall_mem_cons.mpr ⟨lw_p32, List.forall_mem_cons.mpr ⟨lw_p33, List.forall_mem_cons.mpr ⟨lw_p34, List.forall_mem_cons.mpr ⟨lw_p35, List.forall_mem_cons.mpr ⟨lw_p36, List.forall_mem_cons.mpr ⟨lw_p37, List.forall_mem_cons.mpr ⟨lw_p38, List.forall_mem_cons.mpr ⟨lw_p39, List.forall_mem_cons.mpr ⟨lw_p40, List.forall_mem_cons.mpr ⟨lw_p41, List.forall_mem_cons.mpr ⟨lw_p42, List.forall_mem_cons.mpr ⟨lw_p43, List.forall_mem_cons.mpr ⟨lw_p44, List.forall_mem_cons.mpr ⟨lw_p45, List.forall_mem_cons.mpr ⟨lw_p46, List.forall_mem_cons.mpr ⟨lw_p47, fun _ h => absurd h List.not_mem_nil⟩⟩⟩⟩⟩⟩⟩⟩⟩⟩⟩⟩⟩⟩⟩⟩
theorem lw_p48 : lw_okq (⟨"OneIsTwoModel", "holds", "(I)Z"⟩, 37) := ⟨⟨by decide +kernel, by decide +kernel⟩, List.mem_of_getElem? (i := 1117) (by decide +kernel), List.mem_of_getElem? (i := 1326) (by decide +kernel), List.mem_of_getElem? (i := 1327) (by decide +kernel)⟩
theorem lw_p49 : lw_okq (⟨"OneIsTwoModel", "rootOf", "(I)I"⟩, 37) := ⟨⟨by decide +kernel, by decide +kernel⟩, List.mem_of_getElem? (i := 1117) (by decide +kernel), List.mem_of_getElem? (i := 1333) (by decide +kernel), List.mem_of_getElem? (i := 1334) (by decide +kernel)⟩
theorem lw_p50 : lw_okq (⟨"OneIsTwoModel", "above", "(I)I"⟩, 37) := ⟨⟨by decide +kernel, by decide +kernel⟩, List.mem_of_getElem? (i := 1117) (by decide +kernel), List.mem_of_getElem? (i := 1341) (by decide +kernel), List.mem_of_getElem? (i := 1342) (by decide +kernel)⟩
theorem lw_p51 : lw_okq (⟨"OneIsTwoModel", "next", "()V"⟩, 37) := ⟨⟨by decide +kernel, by decide +kernel⟩, List.mem_of_getElem? (i := 1117) (by decide +kernel), List.mem_of_getElem? (i := 1358) (by decide +kernel), List.mem_of_getElem? (i := 1359) (by decide +kernel)⟩
theorem lw_p52 : lw_okq (⟨"OneIsTwoModel", "byteAt", "(I)I"⟩, 37) := ⟨⟨by decide +kernel, by decide +kernel⟩, List.mem_of_getElem? (i := 1117) (by decide +kernel), List.mem_of_getElem? (i := 1362) (by decide +kernel), List.mem_of_getElem? (i := 1363) (by decide +kernel)⟩
theorem lw_p53 : lw_okq (⟨"OneIsTwoModel", "oneClause", "()V"⟩, 37) := ⟨⟨by decide +kernel, by decide +kernel⟩, List.mem_of_getElem? (i := 1117) (by decide +kernel), List.mem_of_getElem? (i := 1376) (by decide +kernel), List.mem_of_getElem? (i := 1377) (by decide +kernel)⟩
theorem lw_p54 : lw_okq (⟨"OneIsTwoModel", "keyHere", "()I"⟩, 37) := ⟨⟨by decide +kernel, by decide +kernel⟩, List.mem_of_getElem? (i := 1117) (by decide +kernel), List.mem_of_getElem? (i := 1380) (by decide +kernel), List.mem_of_getElem? (i := 1381) (by decide +kernel)⟩
theorem lw_p55 : lw_okq (⟨"OneIsTwoModel", "isName", "(IIIIII)Z"⟩, 37) := ⟨⟨by decide +kernel, by decide +kernel⟩, List.mem_of_getElem? (i := 1117) (by decide +kernel), List.mem_of_getElem? (i := 1384) (by decide +kernel), List.mem_of_getElem? (i := 1385) (by decide +kernel)⟩
theorem lw_p56 : lw_okq (⟨"OneIsTwoModel", "isAt", "(II)Z"⟩, 37) := ⟨⟨by decide +kernel, by decide +kernel⟩, List.mem_of_getElem? (i := 1117) (by decide +kernel), List.mem_of_getElem? (i := 1388) (by decide +kernel), List.mem_of_getElem? (i := 1389) (by decide +kernel)⟩
theorem lw_p57 : lw_okq (⟨"OneIsTwoModel", "needs", "(Z)V"⟩, 37) := ⟨⟨by decide +kernel, by decide +kernel⟩, List.mem_of_getElem? (i := 1117) (by decide +kernel), List.mem_of_getElem? (i := 1392) (by decide +kernel), List.mem_of_getElem? (i := 1393) (by decide +kernel)⟩
theorem lw_p58 : lw_okq (⟨"OneIsTwoModel", "valueHere", "(I)I"⟩, 37) := ⟨⟨by decide +kernel, by decide +kernel⟩, List.mem_of_getElem? (i := 1117) (by decide +kernel), List.mem_of_getElem? (i := 1396) (by decide +kernel), List.mem_of_getElem? (i := 1397) (by decide +kernel)⟩
theorem lw_p59 : lw_okq (⟨"OneIsTwoModel", "condition", "()V"⟩, 37) := ⟨⟨by decide +kernel, by decide +kernel⟩, List.mem_of_getElem? (i := 1117) (by decide +kernel), List.mem_of_getElem? (i := 1400) (by decide +kernel), List.mem_of_getElem? (i := 1401) (by decide +kernel)⟩
theorem lw_p60 : lw_okq (⟨"OneIsTwoModel", "every", "()V"⟩, 37) := ⟨⟨by decide +kernel, by decide +kernel⟩, List.mem_of_getElem? (i := 1117) (by decide +kernel), List.mem_of_getElem? (i := 1404) (by decide +kernel), List.mem_of_getElem? (i := 1405) (by decide +kernel)⟩
theorem lw_p61 : lw_okq (⟨"OneIsTwoModel", "single", "()V"⟩, 37) := ⟨⟨by decide +kernel, by decide +kernel⟩, List.mem_of_getElem? (i := 1117) (by decide +kernel), List.mem_of_getElem? (i := 1408) (by decide +kernel), List.mem_of_getElem? (i := 1409) (by decide +kernel)⟩
theorem lw_p62 : lw_okq (⟨"OneIsTwoModel", "value", "()V"⟩, 37) := ⟨⟨by decide +kernel, by decide +kernel⟩, List.mem_of_getElem? (i := 1117) (by decide +kernel), List.mem_of_getElem? (i := 1412) (by decide +kernel), List.mem_of_getElem? (i := 1413) (by decide +kernel)⟩
theorem lw_p63 : lw_okq (⟨"OneIsTwoModel", "emits", "(I)V"⟩, 37) := ⟨⟨by decide +kernel, by decide +kernel⟩, List.mem_of_getElem? (i := 1117) (by decide +kernel), List.mem_of_getElem? (i := 1416) (by decide +kernel), List.mem_of_getElem? (i := 1417) (by decide +kernel)⟩
def lw_privs_4 : List (MethodName × Nat) := [(⟨"OneIsTwoModel", "holds", "(I)Z"⟩, 37), (⟨"OneIsTwoModel", "rootOf", "(I)I"⟩, 37), (⟨"OneIsTwoModel", "above", "(I)I"⟩, 37), (⟨"OneIsTwoModel", "next", "()V"⟩, 37), (⟨"OneIsTwoModel", "byteAt", "(I)I"⟩, 37), (⟨"OneIsTwoModel", "oneClause", "()V"⟩, 37), (⟨"OneIsTwoModel", "keyHere", "()I"⟩, 37), (⟨"OneIsTwoModel", "isName", "(IIIIII)Z"⟩, 37), (⟨"OneIsTwoModel", "isAt", "(II)Z"⟩, 37), (⟨"OneIsTwoModel", "needs", "(Z)V"⟩, 37), (⟨"OneIsTwoModel", "valueHere", "(I)I"⟩, 37), (⟨"OneIsTwoModel", "condition", "()V"⟩, 37), (⟨"OneIsTwoModel", "every", "()V"⟩, 37), (⟨"OneIsTwoModel", "single", "()V"⟩, 37), (⟨"OneIsTwoModel", "value", "()V"⟩, 37), (⟨"OneIsTwoModel", "emits", "(I)V"⟩, 37)]
theorem lw_r4 : ∀ q ∈ lw_privs_4, lw_okq q := List.forall_mem_cons.mpr ⟨lw_p48, List.forall_mem_cons.mpr ⟨lw_p49, List.forall_mem_cons.mpr ⟨lw_p50, List.forall_mem_cons.mpr ⟨lw_p51, List.forall_mem_cons.mpr ⟨lw_p52, List.forall_mem_cons.mpr ⟨lw_p53, List.forall_mem_cons.mpr ⟨lw_p54, List.forall_mem_cons.mpr ⟨lw_p55, List.forall_mem_cons.mpr ⟨lw_p56, List.forall_mem_cons.mpr ⟨lw_p57, List.forall_mem_cons.mpr ⟨lw_p58, List.forall_mem_cons.mpr ⟨lw_p59, List.forall_mem_cons.mpr ⟨lw_p60, List.forall_mem_cons.mpr ⟨lw_p61, List.forall_mem_cons.mpr ⟨lw_p62, List.forall_mem_cons.mpr ⟨lw_p63, fun _ h => absurd h List.not_mem_nil⟩⟩⟩⟩⟩⟩⟩⟩⟩⟩⟩⟩⟩⟩⟩⟩
theorem lw_p64 : lw_okq (⟨"OneIsTwoModel", "factHere", "()I"⟩, 37) := ⟨⟨by decide +kernel, by decide +kernel⟩, List.mem_of_getElem? (i := 1117) (by decide +kernel), List.mem_of_getElem? (i := 1420) (by decide +kernel), List.mem_of_getElem? (i := 1421) (by decide +kernel)⟩
theorem lw_p65 : lw_okq (⟨"OneIsTwoModel", "nowAbout", "(II)I"⟩, 37) := ⟨⟨by decide +kernel, by decide +kernel⟩, List.mem_of_getElem? (i := 1117) (by decide +kernel), List.mem_of_getElem? (i := 1429) (by decide +kernel), List.mem_of_getElem? (i := 1430) (by decide +kernel)⟩
theorem lw_p66 : lw_okq (⟨"OneIsTwoModel", "newClaim", "(III)I"⟩, 37) := ⟨⟨by decide +kernel, by decide +kernel⟩, List.mem_of_getElem? (i := 1117) (by decide +kernel), List.mem_of_getElem? (i := 1438) (by decide +kernel), List.mem_of_getElem? (i := 1439) (by decide +kernel)⟩
theorem lw_p67 : lw_okq (⟨"OneIsTwoModel", "isClaim", "(I)Z"⟩, 37) := ⟨⟨by decide +kernel, by decide +kernel⟩, List.mem_of_getElem? (i := 1117) (by decide +kernel), List.mem_of_getElem? (i := 1446) (by decide +kernel), List.mem_of_getElem? (i := 1447) (by decide +kernel)⟩
theorem lw_p68 : lw_okq (⟨"OneIsTwoModel", "findShares", "(I)V"⟩, 37) := ⟨⟨by decide +kernel, by decide +kernel⟩, List.mem_of_getElem? (i := 1117) (by decide +kernel), List.mem_of_getElem? (i := 1455) (by decide +kernel), List.mem_of_getElem? (i := 1456) (by decide +kernel)⟩
theorem lw_p69 : lw_okq (⟨"OneIsTwoModel", "nobodyStands", "()V"⟩, 37) := ⟨⟨by decide +kernel, by decide +kernel⟩, List.mem_of_getElem? (i := 1117) (by decide +kernel), List.mem_of_getElem? (i := 1459) (by decide +kernel), List.mem_of_getElem? (i := 1460) (by decide +kernel)⟩
theorem lw_p70 : lw_okq (⟨"OneIsTwoModel", "sharesBy", "(II)V"⟩, 37) := ⟨⟨by decide +kernel, by decide +kernel⟩, List.mem_of_getElem? (i := 1117) (by decide +kernel), List.mem_of_getElem? (i := 1464) (by decide +kernel), List.mem_of_getElem? (i := 1465) (by decide +kernel)⟩
theorem lw_p71 : lw_okq (⟨"OneIsTwoModel", "moves", "(II)Z"⟩, 37) := ⟨⟨by decide +kernel, by decide +kernel⟩, List.mem_of_getElem? (i := 1117) (by decide +kernel), List.mem_of_getElem? (i := 1471) (by decide +kernel), List.mem_of_getElem? (i := 1472) (by decide +kernel)⟩
theorem lw_p72 : lw_okq (⟨"OneIsTwoModel", "goesBy", "(I)V"⟩, 37) := ⟨⟨by decide +kernel, by decide +kernel⟩, List.mem_of_getElem? (i := 1117) (by decide +kernel), List.mem_of_getElem? (i := 1475) (by decide +kernel), List.mem_of_getElem? (i := 1476) (by decide +kernel)⟩
theorem lw_p73 : lw_okq (⟨"OneIsTwoModel", "totalOf", "(II)J"⟩, 37) := ⟨⟨by decide +kernel, by decide +kernel⟩, List.mem_of_getElem? (i := 1117) (by decide +kernel), List.mem_of_getElem? (i := 1489) (by decide +kernel), List.mem_of_getElem? (i := 1490) (by decide +kernel)⟩
theorem lw_p74 : lw_okq (⟨"OneIsTwoModel", "isDeed", "(I)Z"⟩, 37) := ⟨⟨by decide +kernel, by decide +kernel⟩, List.mem_of_getElem? (i := 1117) (by decide +kernel), List.mem_of_getElem? (i := 1501) (by decide +kernel), List.mem_of_getElem? (i := 1502) (by decide +kernel)⟩
theorem lw_p75 : lw_okq (⟨"OneIsTwoModel", "rememberers", "(I)I"⟩, 37) := ⟨⟨by decide +kernel, by decide +kernel⟩, List.mem_of_getElem? (i := 1117) (by decide +kernel), List.mem_of_getElem? (i := 1505) (by decide +kernel), List.mem_of_getElem? (i := 1506) (by decide +kernel)⟩
theorem lw_p76 : lw_okq (⟨"OneIsTwoModel", "counts", "(I)Z"⟩, 37) := ⟨⟨by decide +kernel, by decide +kernel⟩, List.mem_of_getElem? (i := 1117) (by decide +kernel), List.mem_of_getElem? (i := 1513) (by decide +kernel), List.mem_of_getElem? (i := 1514) (by decide +kernel)⟩
theorem lw_p77 : lw_okq (⟨"OneIsTwoModel", "bodyOf", "(I)I"⟩, 37) := ⟨⟨by decide +kernel, by decide +kernel⟩, List.mem_of_getElem? (i := 1117) (by decide +kernel), List.mem_of_getElem? (i := 1517) (by decide +kernel), List.mem_of_getElem? (i := 1518) (by decide +kernel)⟩
theorem lw_p78 : lw_okq (⟨"OneIsTwoModel", "tellsApart", "(I)Z"⟩, 37) := ⟨⟨by decide +kernel, by decide +kernel⟩, List.mem_of_getElem? (i := 1117) (by decide +kernel), List.mem_of_getElem? (i := 1532) (by decide +kernel), List.mem_of_getElem? (i := 1533) (by decide +kernel)⟩
theorem lw_p79 : lw_okq (⟨"OneIsTwoModel", "weddedTo", "(I)I"⟩, 37) := ⟨⟨by decide +kernel, by decide +kernel⟩, List.mem_of_getElem? (i := 1117) (by decide +kernel), List.mem_of_getElem? (i := 1540) (by decide +kernel), List.mem_of_getElem? (i := 1541) (by decide +kernel)⟩
def lw_privs_5 : List (MethodName × Nat) := [(⟨"OneIsTwoModel", "factHere", "()I"⟩, 37), (⟨"OneIsTwoModel", "nowAbout", "(II)I"⟩, 37), (⟨"OneIsTwoModel", "newClaim", "(III)I"⟩, 37), (⟨"OneIsTwoModel", "isClaim", "(I)Z"⟩, 37), (⟨"OneIsTwoModel", "findShares", "(I)V"⟩, 37), (⟨"OneIsTwoModel", "nobodyStands", "()V"⟩, 37), (⟨"OneIsTwoModel", "sharesBy", "(II)V"⟩, 37), (⟨"OneIsTwoModel", "moves", "(II)Z"⟩, 37), (⟨"OneIsTwoModel", "goesBy", "(I)V"⟩, 37), (⟨"OneIsTwoModel", "totalOf", "(II)J"⟩, 37), (⟨"OneIsTwoModel", "isDeed", "(I)Z"⟩, 37), (⟨"OneIsTwoModel", "rememberers", "(I)I"⟩, 37), (⟨"OneIsTwoModel", "counts", "(I)Z"⟩, 37), (⟨"OneIsTwoModel", "bodyOf", "(I)I"⟩, 37), (⟨"OneIsTwoModel", "tellsApart", "(I)Z"⟩, 37), (⟨"OneIsTwoModel", "weddedTo", "(I)I"⟩, 37)]
theorem lw_r5 : ∀ q ∈ lw_privs_5, lw_okq q := List.forall_mem_cons.mpr ⟨lw_p64, List.forall_mem_cons.mpr ⟨lw_p65, List.forall_mem_cons.mpr ⟨lw_p66, List.forall_mem_cons.mpr ⟨lw_p67, List.forall_mem_cons.mpr ⟨lw_p68, List.forall_mem_cons.mpr ⟨lw_p69, List.forall_mem_cons.mpr ⟨lw_p70, List.forall_mem_cons.mpr ⟨lw_p71, List.forall_mem_cons.mpr ⟨lw_p72, List.forall_mem_cons.mpr ⟨lw_p73, List.forall_mem_cons.mpr ⟨lw_p74, List.forall_mem_cons.mpr ⟨lw_p75, List.forall_mem_cons.mpr ⟨lw_p76, List.forall_mem_cons.mpr ⟨lw_p77, List.forall_mem_cons.mpr ⟨lw_p78, List.forall_mem_cons.mpr ⟨lw_p79, fun _ h => absurd h List.not_mem_nil⟩⟩⟩⟩⟩⟩⟩⟩⟩⟩⟩⟩⟩⟩⟩⟩
theorem lw_p80 : lw_okq (⟨"OneIsTwoModel", "findSides", "(I)V"⟩, 37) := ⟨⟨by decide +kernel, by decide +kernel⟩, List.mem_of_getElem? (i := 1117) (by decide +kernel), List.mem_of_getElem? (i := 1544) (by decide +kernel), List.mem_of_getElem? (i := 1545) (by decide +kernel)⟩
theorem lw_p81 : lw_okq (⟨"OneIsTwoModel", "sideBy", "(III)I"⟩, 37) := ⟨⟨by decide +kernel, by decide +kernel⟩, List.mem_of_getElem? (i := 1117) (by decide +kernel), List.mem_of_getElem? (i := 1548) (by decide +kernel), List.mem_of_getElem? (i := 1549) (by decide +kernel)⟩
theorem lw_p82 : lw_okq (⟨"OneIsTwoModel", "findRoot", "(I)V"⟩, 37) := ⟨⟨by decide +kernel, by decide +kernel⟩, List.mem_of_getElem? (i := 1117) (by decide +kernel), List.mem_of_getElem? (i := 1560) (by decide +kernel), List.mem_of_getElem? (i := 1561) (by decide +kernel)⟩
theorem lw_p83 : lw_okq (⟨"OneIsTwoModel", "voteOf", "(I)I"⟩, 37) := ⟨⟨by decide +kernel, by decide +kernel⟩, List.mem_of_getElem? (i := 1117) (by decide +kernel), List.mem_of_getElem? (i := 1564) (by decide +kernel), List.mem_of_getElem? (i := 1565) (by decide +kernel)⟩
theorem lw_p84 : lw_okq (⟨"OneIsTwoModel", "leaves", "()V"⟩, 37) := ⟨⟨by decide +kernel, by decide +kernel⟩, List.mem_of_getElem? (i := 1117) (by decide +kernel), List.mem_of_getElem? (i := 1577) (by decide +kernel), List.mem_of_getElem? (i := 1578) (by decide +kernel)⟩
theorem lw_p85 : lw_okq (⟨"OneIsTwoModel", "paysBy", "(II)J"⟩, 37) := ⟨⟨by decide +kernel, by decide +kernel⟩, List.mem_of_getElem? (i := 1117) (by decide +kernel), List.mem_of_getElem? (i := 1581) (by decide +kernel), List.mem_of_getElem? (i := 1582) (by decide +kernel)⟩
theorem lw_p86 : lw_okq (⟨"OneIsTwoModel", "returns", "()V"⟩, 37) := ⟨⟨by decide +kernel, by decide +kernel⟩, List.mem_of_getElem? (i := 1117) (by decide +kernel), List.mem_of_getElem? (i := 1585) (by decide +kernel), List.mem_of_getElem? (i := 1586) (by decide +kernel)⟩
theorem lw_p87 : lw_okq (⟨"OneIsTwoModel", "taking", "(II)I"⟩, 37) := ⟨⟨by decide +kernel, by decide +kernel⟩, List.mem_of_getElem? (i := 1117) (by decide +kernel), List.mem_of_getElem? (i := 1639) (by decide +kernel), List.mem_of_getElem? (i := 1640) (by decide +kernel)⟩
theorem lw_p88 : lw_okq (⟨"OneIsTwoModel", "takes", "(I)V"⟩, 37) := ⟨⟨by decide +kernel, by decide +kernel⟩, List.mem_of_getElem? (i := 1117) (by decide +kernel), List.mem_of_getElem? (i := 1660) (by decide +kernel), List.mem_of_getElem? (i := 1661) (by decide +kernel)⟩
theorem lw_p89 : lw_okq (⟨"OneIsTwoModel", "bears", "(I)I"⟩, 37) := ⟨⟨by decide +kernel, by decide +kernel⟩, List.mem_of_getElem? (i := 1117) (by decide +kernel), List.mem_of_getElem? (i := 1671) (by decide +kernel), List.mem_of_getElem? (i := 1672) (by decide +kernel)⟩
theorem lw_p90 : lw_okq (⟨"OneIsTwoModel", "copyBears", "(I)I"⟩, 37) := ⟨⟨by decide +kernel, by decide +kernel⟩, List.mem_of_getElem? (i := 1117) (by decide +kernel), List.mem_of_getElem? (i := 1675) (by decide +kernel), List.mem_of_getElem? (i := 1676) (by decide +kernel)⟩
theorem lw_p91 : lw_okq (⟨"OneIsTwoModel", "ran", "(I)V"⟩, 37) := ⟨⟨by decide +kernel, by decide +kernel⟩, List.mem_of_getElem? (i := 1117) (by decide +kernel), List.mem_of_getElem? (i := 1679) (by decide +kernel), List.mem_of_getElem? (i := 1680) (by decide +kernel)⟩
theorem lw_p92 : lw_okq (⟨"OneIsTwoModel", "anyBears", "(I)I"⟩, 37) := ⟨⟨by decide +kernel, by decide +kernel⟩, List.mem_of_getElem? (i := 1117) (by decide +kernel), List.mem_of_getElem? (i := 1683) (by decide +kernel), List.mem_of_getElem? (i := 1684) (by decide +kernel)⟩
theorem lw_p93 : lw_okq (⟨"OneIsTwoModel", "knows", "(I)I"⟩, 37) := ⟨⟨by decide +kernel, by decide +kernel⟩, List.mem_of_getElem? (i := 1117) (by decide +kernel), List.mem_of_getElem? (i := 1687) (by decide +kernel), List.mem_of_getElem? (i := 1688) (by decide +kernel)⟩
theorem lw_p94 : lw_okq (⟨"OneIsTwoModel", "anyKnows", "(I)I"⟩, 37) := ⟨⟨by decide +kernel, by decide +kernel⟩, List.mem_of_getElem? (i := 1117) (by decide +kernel), List.mem_of_getElem? (i := 1691) (by decide +kernel), List.mem_of_getElem? (i := 1692) (by decide +kernel)⟩
theorem lw_p95 : lw_okq (⟨"OneIsTwoModel", "parts", "(I)I"⟩, 37) := ⟨⟨by decide +kernel, by decide +kernel⟩, List.mem_of_getElem? (i := 1117) (by decide +kernel), List.mem_of_getElem? (i := 1695) (by decide +kernel), List.mem_of_getElem? (i := 1696) (by decide +kernel)⟩
def lw_privs_6 : List (MethodName × Nat) := [(⟨"OneIsTwoModel", "findSides", "(I)V"⟩, 37), (⟨"OneIsTwoModel", "sideBy", "(III)I"⟩, 37), (⟨"OneIsTwoModel", "findRoot", "(I)V"⟩, 37), (⟨"OneIsTwoModel", "voteOf", "(I)I"⟩, 37), (⟨"OneIsTwoModel", "leaves", "()V"⟩, 37), (⟨"OneIsTwoModel", "paysBy", "(II)J"⟩, 37), (⟨"OneIsTwoModel", "returns", "()V"⟩, 37), (⟨"OneIsTwoModel", "taking", "(II)I"⟩, 37), (⟨"OneIsTwoModel", "takes", "(I)V"⟩, 37), (⟨"OneIsTwoModel", "bears", "(I)I"⟩, 37), (⟨"OneIsTwoModel", "copyBears", "(I)I"⟩, 37), (⟨"OneIsTwoModel", "ran", "(I)V"⟩, 37), (⟨"OneIsTwoModel", "anyBears", "(I)I"⟩, 37), (⟨"OneIsTwoModel", "knows", "(I)I"⟩, 37), (⟨"OneIsTwoModel", "anyKnows", "(I)I"⟩, 37), (⟨"OneIsTwoModel", "parts", "(I)I"⟩, 37)]
theorem lw_r6 : ∀ q ∈ lw_privs_6, lw_okq q := List.forall_mem_cons.mpr ⟨lw_p80, List.forall_mem_cons.mpr ⟨lw_p81, List.forall_mem_cons.mpr ⟨lw_p82, List.forall_mem_cons.mpr ⟨lw_p83, List.forall_mem_cons.mpr ⟨lw_p84, List.forall_mem_cons.mpr ⟨lw_p85, List.forall_mem_cons.mpr ⟨lw_p86, List.forall_mem_cons.mpr ⟨lw_p87, List.forall_mem_cons.mpr ⟨lw_p88, List.forall_mem_cons.mpr ⟨lw_p89, List.forall_mem_cons.mpr ⟨lw_p90, List.forall_mem_cons.mpr ⟨lw_p91, List.forall_mem_cons.mpr ⟨lw_p92, List.forall_mem_cons.mpr ⟨lw_p93, List.forall_mem_cons.mpr ⟨lw_p94, List.forall_mem_cons.mpr ⟨lw_p95, fun _ h => absurd h List.not_mem_nil⟩⟩⟩⟩⟩⟩⟩⟩⟩⟩⟩⟩⟩⟩⟩⟩
theorem lw_p96 : lw_okq (⟨"OneIsTwoModel", "anyShares", "(I)I"⟩, 37) := ⟨⟨by decide +kernel, by decide +kernel⟩, List.mem_of_getElem? (i := 1117) (by decide +kernel), List.mem_of_getElem? (i := 1699) (by decide +kernel), List.mem_of_getElem? (i := 1700) (by decide +kernel)⟩
theorem lw_p97 : lw_okq (⟨"OneIsTwoModel", "tells", "(I)I"⟩, 37) := ⟨⟨by decide +kernel, by decide +kernel⟩, List.mem_of_getElem? (i := 1117) (by decide +kernel), List.mem_of_getElem? (i := 1703) (by decide +kernel), List.mem_of_getElem? (i := 1704) (by decide +kernel)⟩
theorem lw_p98 : lw_okq (⟨"OneIsTwoModel", "anyTells", "(I)I"⟩, 37) := ⟨⟨by decide +kernel, by decide +kernel⟩, List.mem_of_getElem? (i := 1117) (by decide +kernel), List.mem_of_getElem? (i := 1707) (by decide +kernel), List.mem_of_getElem? (i := 1708) (by decide +kernel)⟩
def lw_privs_7 : List (MethodName × Nat) := [(⟨"OneIsTwoModel", "anyShares", "(I)I"⟩, 37), (⟨"OneIsTwoModel", "tells", "(I)I"⟩, 37), (⟨"OneIsTwoModel", "anyTells", "(I)I"⟩, 37)]
theorem lw_r7 : ∀ q ∈ lw_privs_7, lw_okq q := List.forall_mem_cons.mpr ⟨lw_p96, List.forall_mem_cons.mpr ⟨lw_p97, List.forall_mem_cons.mpr ⟨lw_p98, fun _ h => absurd h List.not_mem_nil⟩⟩⟩
def lw_privs : List (MethodName × Nat) := lw_privs_1 ++ (lw_privs_2 ++ (lw_privs_3 ++ (lw_privs_4 ++ (lw_privs_5 ++ (lw_privs_6 ++ (lw_privs_7))))))
def lw_tbl : List Cond := k2_sels lw_privs ++ tables_1
theorem lw_privs_ok : ∀ q ∈ lw_privs, lw_okq q := by
  show ∀ q ∈ lw_privs_1 ++ (lw_privs_2 ++ (lw_privs_3 ++ (lw_privs_4 ++ (lw_privs_5 ++ (lw_privs_6 ++ (lw_privs_7)))))), lw_okq q
  exact List.forall_mem_append.mpr ⟨lw_r1, List.forall_mem_append.mpr ⟨lw_r2, List.forall_mem_append.mpr ⟨lw_r3, List.forall_mem_append.mpr ⟨lw_r4, List.forall_mem_append.mpr ⟨lw_r5, List.forall_mem_append.mpr ⟨lw_r6, lw_r7⟩⟩⟩⟩⟩⟩
def RX0 : String := "OneIsTwo$Actor"
def TX0 : u_T := fun k => match k with
  | 0 => ("OneIsTwo$Actor", "bodies", "[I", true)
  | 1 => ("OneIsTwo$Actor", "ran", "I", false)
  | 2 => ("OneIsTwo$Actor", "kind", "I", false)
  | 3 => ("OneIsTwo$Actor", "n", "I", false)
  | 4 => ("OneIsTwo$Actor", "a", "I", false)
  | _ => ("OneIsTwo$Actor", "isByZero", "Z", false)
def tyX0 : Nat → FieldType := fun k => match k with
  | 0 => .array .int
  | 1 => .int
  | 2 => .int
  | 3 => .int
  | 4 => .int
  | _ => .boolean
theorem nmX0 : ∀ a, a < 6 → ∀ b, b < 6 → a ≠ b → (TX0 a).2.1 ≠ (TX0 b).2.1 := by decide +kernel
theorem tyX0_ok : ∀ k, k < 6 → parseFieldDescriptor (TX0 k).2.2.1 = some (tyX0 k) := by decide +kernel
def RX1 : String := "OneIsTwo$Claim"
def TX1 : u_T := fun k => match k with
  | 0 => ("OneIsTwo$Claim", "sort", "I", false)
  | 1 => ("OneIsTwo$Claim", "whose", "I", false)
  | 2 => ("OneIsTwo$Claim", "worth", "I", false)
  | 3 => ("OneIsTwo$Claim", "day", "I", false)
  | _ => ("OneIsTwo$Claim", "after", "I", false)
def tyX1 : Nat → FieldType := fun k => match k with
  | 0 => .int
  | 1 => .int
  | 2 => .int
  | 3 => .int
  | _ => .int
theorem nmX1 : ∀ a, a < 5 → ∀ b, b < 5 → a ≠ b → (TX1 a).2.1 ≠ (TX1 b).2.1 := by decide +kernel
theorem tyX1_ok : ∀ k, k < 5 → parseFieldDescriptor (TX1 k).2.2.1 = some (tyX1 k) := by decide +kernel
def RX2 : String := "OneIsTwo$Event"
def TX2 : u_T := fun k => match k with
  | 0 => ("OneIsTwo$Event", "sort", "I", false)
  | 1 => ("OneIsTwo$Event", "who", "I", false)
  | _ => ("OneIsTwo$Event", "day", "I", false)
def tyX2 : Nat → FieldType := fun k => match k with
  | 0 => .int
  | 1 => .int
  | _ => .int
theorem nmX2 : ∀ a, a < 3 → ∀ b, b < 3 → a ≠ b → (TX2 a).2.1 ≠ (TX2 b).2.1 := by decide +kernel
theorem tyX2_ok : ∀ k, k < 3 → parseFieldDescriptor (TX2 k).2.2.1 = some (tyX2 k) := by decide +kernel
def RX3 : String := "OneIsTwo$Law"
def TX3 : u_T := fun k => match k with
  | 0 => ("OneIsTwo$Law", "keys", "[I", true)
  | 1 => ("OneIsTwo$Law", "values", "[I", true)
  | 2 => ("OneIsTwo$Law", "start", "[I", true)
  | 3 => ("OneIsTwo$Law", "code", "[I", true)
  | _ => ("OneIsTwo$Law", "clauses", "I", false)
def tyX3 : Nat → FieldType := fun k => match k with
  | 0 => .array .int
  | 1 => .array .int
  | 2 => .array .int
  | 3 => .array .int
  | _ => .int
theorem nmX3 : ∀ a, a < 5 → ∀ b, b < 5 → a ≠ b → (TX3 a).2.1 ≠ (TX3 b).2.1 := by decide +kernel
theorem tyX3_ok : ∀ k, k < 5 → parseFieldDescriptor (TX3 k).2.2.1 = some (tyX3 k) := by decide +kernel
def RX4 : String := "OneIsTwo$LawReader"
def TX4 : u_T := fun k => match k with
  | 0 => ("OneIsTwo$LawReader", "read", "LOneIsTwo$Law;", true)
  | 1 => ("OneIsTwo$LawReader", "text", "[B", true)
  | 2 => ("OneIsTwo$LawReader", "size", "I", false)
  | 3 => ("OneIsTwo$LawReader", "at", "I", false)
  | 4 => ("OneIsTwo$LawReader", "after", "I", false)
  | 5 => ("OneIsTwo$LawReader", "token", "I", false)
  | _ => ("OneIsTwo$LawReader", "number", "I", false)
def tyX4 : Nat → FieldType := fun k => match k with
  | 0 => .object "OneIsTwo$Law"
  | 1 => .array .byte
  | 2 => .int
  | 3 => .int
  | 4 => .int
  | 5 => .int
  | _ => .int
theorem nmX4 : ∀ a, a < 7 → ∀ b, b < 7 → a ≠ b → (TX4 a).2.1 ≠ (TX4 b).2.1 := by decide +kernel
theorem tyX4_ok : ∀ k, k < 7 → parseFieldDescriptor (TX4 k).2.2.1 = some (tyX4 k) := by decide +kernel
def RX5 : String := "OneIsTwo$Ledger"
def TX5 : u_T := fun k => match k with
  | 0 => ("OneIsTwo$Ledger", "world", "LOneIsTwo$World;", true)
  | _ => ("OneIsTwo$Ledger", "has", "[J", true)
def tyX5 : Nat → FieldType := fun k => match k with
  | 0 => .object "OneIsTwo$World"
  | _ => .array .long
theorem nmX5 : ∀ a, a < 2 → ∀ b, b < 2 → a ≠ b → (TX5 a).2.1 ≠ (TX5 b).2.1 := by decide +kernel
theorem tyX5_ok : ∀ k, k < 2 → parseFieldDescriptor (TX5 k).2.2.1 = some (tyX5 k) := by decide +kernel
def RX6 : String := "OneIsTwo$Minds"
def TX6 : u_T := fun k => match k with
  | 0 => ("OneIsTwo$Minds", "world", "LOneIsTwo$World;", true)
  | 1 => ("OneIsTwo$Minds", "known", "[I", true)
  | _ => ("OneIsTwo$Minds", "between", "[I", true)
def tyX6 : Nat → FieldType := fun k => match k with
  | 0 => .object "OneIsTwo$World"
  | 1 => .array .int
  | _ => .array .int
theorem nmX6 : ∀ a, a < 3 → ∀ b, b < 3 → a ≠ b → (TX6 a).2.1 ≠ (TX6 b).2.1 := by decide +kernel
theorem tyX6_ok : ∀ k, k < 3 → parseFieldDescriptor (TX6 k).2.2.1 = some (tyX6 k) := by decide +kernel
def RX7 : String := "OneIsTwo$Person"
def TX7 : u_T := fun k => match k with
  | 0 => ("OneIsTwo$Person", "kind", "I", false)
  | 1 => ("OneIsTwo$Person", "told", "I", false)
  | 2 => ("OneIsTwo$Person", "from", "I", false)
  | 3 => ("OneIsTwo$Person", "other", "I", false)
  | 4 => ("OneIsTwo$Person", "day", "I", false)
  | 5 => ("OneIsTwo$Person", "moment", "I", false)
  | 6 => ("OneIsTwo$Person", "part", "I", false)
  | 7 => ("OneIsTwo$Person", "into", "I", false)
  | 8 => ("OneIsTwo$Person", "until", "I", false)
  | 9 => ("OneIsTwo$Person", "leave", "Z", false)
  | 10 => ("OneIsTwo$Person", "isVoid", "Z", false)
  | _ => ("OneIsTwo$Person", "rests", "Z", false)
def tyX7 : Nat → FieldType := fun k => match k with
  | 0 => .int
  | 1 => .int
  | 2 => .int
  | 3 => .int
  | 4 => .int
  | 5 => .int
  | 6 => .int
  | 7 => .int
  | 8 => .int
  | 9 => .boolean
  | 10 => .boolean
  | _ => .boolean
theorem nmX7 : ∀ a, a < 12 → ∀ b, b < 12 → a ≠ b → (TX7 a).2.1 ≠ (TX7 b).2.1 := by decide +kernel
theorem tyX7_ok : ∀ k, k < 12 → parseFieldDescriptor (TX7 k).2.2.1 = some (tyX7 k) := by decide +kernel
def RX8 : String := "OneIsTwo$Sides"
def TX8 : u_T := fun k => match k with
  | _ => ("OneIsTwo$Sides", "world", "LOneIsTwo$World;", true)
def tyX8 : Nat → FieldType := fun k => match k with
  | _ => .object "OneIsTwo$World"
theorem nmX8 : ∀ a, a < 1 → ∀ b, b < 1 → a ≠ b → (TX8 a).2.1 ≠ (TX8 b).2.1 := by decide +kernel
theorem tyX8_ok : ∀ k, k < 1 → parseFieldDescriptor (TX8 k).2.2.1 = some (tyX8 k) := by decide +kernel
def RX9 : String := "OneIsTwo$Wedding"
def TX9 : u_T := fun k => match k with
  | 0 => ("OneIsTwo$Wedding", "one", "I", false)
  | 1 => ("OneIsTwo$Wedding", "two", "I", false)
  | 2 => ("OneIsTwo$Wedding", "day", "I", false)
  | _ => ("OneIsTwo$Wedding", "after", "I", false)
def tyX9 : Nat → FieldType := fun k => match k with
  | 0 => .int
  | 1 => .int
  | 2 => .int
  | _ => .int
theorem nmX9 : ∀ a, a < 4 → ∀ b, b < 4 → a ≠ b → (TX9 a).2.1 ≠ (TX9 b).2.1 := by decide +kernel
theorem tyX9_ok : ∀ k, k < 4 → parseFieldDescriptor (TX9 k).2.2.1 = some (tyX9 k) := by decide +kernel
def RX10 : String := "OneIsTwo$World"
def TX10 : u_T := fun k => match k with
  | 0 => ("OneIsTwo$World", "persons", "[LOneIsTwo$Person;", true)
  | 1 => ("OneIsTwo$World", "events", "[LOneIsTwo$Event;", true)
  | 2 => ("OneIsTwo$World", "claims", "[LOneIsTwo$Claim;", true)
  | 3 => ("OneIsTwo$World", "weddings", "[LOneIsTwo$Wedding;", true)
  | 4 => ("OneIsTwo$World", "deedOf", "[I", true)
  | 5 => ("OneIsTwo$World", "deedDay", "[I", true)
  | 6 => ("OneIsTwo$World", "law", "LOneIsTwo$Law;", true)
  | 7 => ("OneIsTwo$World", "facts", "[I", true)
  | 8 => ("OneIsTwo$World", "day", "I", false)
  | 9 => ("OneIsTwo$World", "people", "I", false)
  | 10 => ("OneIsTwo$World", "happened", "I", false)
  | 11 => ("OneIsTwo$World", "claimed", "I", false)
  | 12 => ("OneIsTwo$World", "wedded", "I", false)
  | 13 => ("OneIsTwo$World", "done", "I", false)
  | _ => ("OneIsTwo$World", "z", "I", false)
def tyX10 : Nat → FieldType := fun k => match k with
  | 0 => .array (.object "OneIsTwo$Person")
  | 1 => .array (.object "OneIsTwo$Event")
  | 2 => .array (.object "OneIsTwo$Claim")
  | 3 => .array (.object "OneIsTwo$Wedding")
  | 4 => .array .int
  | 5 => .array .int
  | 6 => .object "OneIsTwo$Law"
  | 7 => .array .int
  | 8 => .int
  | 9 => .int
  | 10 => .int
  | 11 => .int
  | 12 => .int
  | 13 => .int
  | _ => .int
theorem nmX10 : ∀ a, a < 15 → ∀ b, b < 15 → a ≠ b → (TX10 a).2.1 ≠ (TX10 b).2.1 := by decide +kernel
theorem tyX10_ok : ∀ k, k < 15 → parseFieldDescriptor (TX10 k).2.2.1 = some (tyX10 k) := by decide +kernel
def RX11 : String := "OneIsTwo"
def TX11 : u_T := fun k => match k with
  | 0 => ("OneIsTwo", "now", "LOneIsTwo$World;", true)
  | 1 => ("OneIsTwo", "kept", "LOneIsTwo$World;", true)
  | 2 => ("OneIsTwo", "trial", "LOneIsTwo$World;", true)
  | 3 => ("OneIsTwo", "ledger", "LOneIsTwo$Ledger;", true)
  | 4 => ("OneIsTwo", "trialLedger", "LOneIsTwo$Ledger;", true)
  | 5 => ("OneIsTwo", "sides", "LOneIsTwo$Sides;", true)
  | 6 => ("OneIsTwo", "minds", "LOneIsTwo$Minds;", true)
  | 7 => ("OneIsTwo", "tape", "[B", true)
  | 8 => ("OneIsTwo", "reader", "LOneIsTwo$LawReader;", true)
  | 9 => ("OneIsTwo", "actor", "LOneIsTwo$Actor;", true)
  | 10 => ("OneIsTwo", "rows", "[[J", true)
  | 11 => ("OneIsTwo", "sheetItems", "[[I", true)
  | 12 => ("OneIsTwo", "sheetSort", "[I", true)
  | 13 => ("OneIsTwo", "sheetSize", "[I", true)
  | 14 => ("OneIsTwo", "shelfHolds", "[I", true)
  | 15 => ("OneIsTwo", "shelfNumber", "[I", true)
  | 16 => ("OneIsTwo", "isKept", "Z", false)
  | 17 => ("OneIsTwo", "fed", "I", false)
  | _ => ("OneIsTwo", "proved", "I", false)
def tyX11 : Nat → FieldType := fun k => match k with
  | 0 => .object "OneIsTwo$World"
  | 1 => .object "OneIsTwo$World"
  | 2 => .object "OneIsTwo$World"
  | 3 => .object "OneIsTwo$Ledger"
  | 4 => .object "OneIsTwo$Ledger"
  | 5 => .object "OneIsTwo$Sides"
  | 6 => .object "OneIsTwo$Minds"
  | 7 => .array .byte
  | 8 => .object "OneIsTwo$LawReader"
  | 9 => .object "OneIsTwo$Actor"
  | 10 => .array (.array .long)
  | 11 => .array (.array .int)
  | 12 => .array .int
  | 13 => .array .int
  | 14 => .array .int
  | 15 => .array .int
  | 16 => .boolean
  | 17 => .int
  | _ => .int
theorem nmX11 : ∀ a, a < 19 → ∀ b, b < 19 → a ≠ b → (TX11 a).2.1 ≠ (TX11 b).2.1 := by decide +kernel
theorem tyX11_ok : ∀ k, k < 19 → parseFieldDescriptor (TX11 k).2.2.1 = some (tyX11 k) := by decide +kernel
def RX12 : String := "OneIsTwoModel"
def TX12 : u_T := fun k => match k with
  | 0 => ("OneIsTwoModel", "s", "[I", true)
  | 1 => ("OneIsTwoModel", "keptS", "[I", true)
  | 2 => ("OneIsTwoModel", "other", "[I", true)
  | 3 => ("OneIsTwoModel", "isKept", "Z", false)
  | 4 => ("OneIsTwoModel", "tape", "[I", true)
  | 5 => ("OneIsTwoModel", "code", "[I", true)
  | 6 => ("OneIsTwoModel", "clause", "[I", true)
  | 7 => ("OneIsTwoModel", "taped", "I", false)
  | 8 => ("OneIsTwoModel", "from", "I", false)
  | 9 => ("OneIsTwoModel", "to", "I", false)
  | 10 => ("OneIsTwoModel", "open", "I", false)
  | 11 => ("OneIsTwoModel", "steps", "I", false)
  | 12 => ("OneIsTwoModel", "clauses", "I", false)
  | 13 => ("OneIsTwoModel", "isWrong", "Z", false)
  | 14 => ("OneIsTwoModel", "facts", "[I", true)
  | 15 => ("OneIsTwoModel", "pile", "[I", true)
  | 16 => ("OneIsTwoModel", "standing", "[I", true)
  | 17 => ("OneIsTwoModel", "shares", "[J", true)
  | 18 => ("OneIsTwoModel", "known", "[I", true)
  | 19 => ("OneIsTwoModel", "sideA", "I", false)
  | 20 => ("OneIsTwoModel", "sideB", "I", false)
  | 21 => ("OneIsTwoModel", "rootMany", "I", false)
  | 22 => ("OneIsTwoModel", "rootLeast", "I", false)
  | 23 => ("OneIsTwoModel", "rows", "[J", true)
  | 24 => ("OneIsTwoModel", "rowMany", "I", false)
  | 25 => ("OneIsTwoModel", "sortOf", "[I", true)
  | 26 => ("OneIsTwoModel", "sizeOf", "[I", true)
  | 27 => ("OneIsTwoModel", "item", "[I", true)
  | 28 => ("OneIsTwoModel", "shelfWhat", "[I", true)
  | 29 => ("OneIsTwoModel", "shelfThing", "[I", true)
  | 30 => ("OneIsTwoModel", "shelfSize", "[I", true)
  | 31 => ("OneIsTwoModel", "kind", "I", false)
  | 32 => ("OneIsTwoModel", "number", "I", false)
  | 33 => ("OneIsTwoModel", "about", "I", false)
  | 34 => ("OneIsTwoModel", "traced", "[I", true)
  | 35 => ("OneIsTwoModel", "bodies", "I", false)
  | _ => ("OneIsTwoModel", "isParted", "Z", false)
def tyX12 : Nat → FieldType := fun k => match k with
  | 0 => .array .int
  | 1 => .array .int
  | 2 => .array .int
  | 3 => .boolean
  | 4 => .array .int
  | 5 => .array .int
  | 6 => .array .int
  | 7 => .int
  | 8 => .int
  | 9 => .int
  | 10 => .int
  | 11 => .int
  | 12 => .int
  | 13 => .boolean
  | 14 => .array .int
  | 15 => .array .int
  | 16 => .array .int
  | 17 => .array .long
  | 18 => .array .int
  | 19 => .int
  | 20 => .int
  | 21 => .int
  | 22 => .int
  | 23 => .array .long
  | 24 => .int
  | 25 => .array .int
  | 26 => .array .int
  | 27 => .array .int
  | 28 => .array .int
  | 29 => .array .int
  | 30 => .array .int
  | 31 => .int
  | 32 => .int
  | 33 => .int
  | 34 => .array .int
  | 35 => .int
  | _ => .boolean
theorem nmX12 : ∀ a, a < 37 → ∀ b, b < 37 → a ≠ b → (TX12 a).2.1 ≠ (TX12 b).2.1 := by decide +kernel
theorem tyX12_ok : ∀ k, k < 37 → parseFieldDescriptor (TX12 k).2.2.1 = some (tyX12 k) := by decide +kernel
abbrev vwCl : List vw_C := [(RX0, TX0, 6), (RX1, TX1, 5), (RX2, TX2, 3), (RX3, TX3, 5), (RX4, TX4, 7), (RX5, TX5, 2), (RX6, TX6, 3), (RX7, TX7, 12), (RX8, TX8, 1), (RX9, TX9, 4), (RX10, TX10, 15), (RX11, TX11, 19), (RX12, TX12, 37)]
end
section
/-! ===== BEGIN by program (wip/whole/gen/emit.py): the methods in the small machine's numbers ===== -/
def pg_at {α : Type} (d : α) : List α → Nat → α
  | [], _ => d
  | a :: _, 0 => a
  | _ :: l, k + 1 => pg_at d l k
/-- OneIsTwo$Actor.<init>()V -/
def pm_0 : List (List Instr) := [[.aload 0, .monitorenter, .aload 0, .iconst (30), .newarray .int, .putfield 2, .return_]]
/-- OneIsTwo$Actor.begin()V -/
def pm_1 : List (List Instr) := [[.aload 0, .iconst (0), .putfield 4, .aload 0, .iconst (0), .putfield 23, .return_]]
/-- OneIsTwo$Actor.perform(IIIII)I -/
def pm_2 : List (List Instr) := [[.aload 0, .iload 1, .putfield 8, .aload 0, .iload 2, .putfield 12, .aload 0, .iload 3, .putfield 16, .iload 4, .ifCond .ne 16, .getstatic 0, .aload 0, .getfield 8, .saload, .goto 36], [.iload 4, .iconst (1), .if_icmp .ne 24, .getstatic 1, .aload 0, .getfield 8, .saload, .goto 36, .iload 4, .iconst (2), .if_icmp .ne 32, .getstatic 2, .aload 0, .getfield 8, .saload, .goto 36], [.getstatic 3, .aload 0, .getfield 8, .saload, .istore 6, .aload 0, .iload 6, .iload 5, .iconst (0), .invokestatic 3, .istore 7, .aload 0, .getfield 20, .ifCond .eq 48, .bipush (-15), .goto 49], [.iload 7, .ireturn]]
/-- OneIsTwo$Actor.run(III)I -/
def pm_3 : List (List Instr) := [[.iload 3, .iconst (20), .if_icmp .le 5, .iconst (0), .ireturn, .aload 0, .getfield 4, .aload 0, .getfield 2, .arraylength, .if_icmp .ge 23, .aload 0, .getfield 2, .aload 0, .getfield 4, .iload 1], [.iastore, .aload 0, .dup, .getfield 4, .iconst (1), .iadd, .putfield 4, .iload 3, .iconst (1), .iadd, .istore 4, .iload 1, .lookupswitch 176 #[(10, 29), (11, 34), (12, 45), (13, 49), (20, 61), (30, 69), (31, 77), (40, 93), (50, 102), (51, 110), (60, 118), (70, 127), (80, 135), (81, 140), (82, 152), (83, 157)], .iload 2, .aload 0, .getfield 16], [.iadd, .ireturn, .aload 0, .getstatic 0, .aload 0, .getfield 8, .saload, .iload 2, .iload 4, .invokestatic 3, .iconst (2), .imul, .ireturn, .aload 0, .iload 2, .invokestatic 4], [.ireturn, .aload 0, .getstatic 1, .aload 0, .getfield 8, .saload, .iload 2, .iload 4, .invokestatic 3, .aload 0, .getfield 12, .ixor, .ireturn, .aload 0, .iconst (11), .iload 2], [.iload 4, .invokestatic 3, .iconst (4), .isub, .ireturn, .aload 0, .iconst (10), .iload 2, .iload 4, .invokestatic 3, .iconst (3), .imul, .ireturn, .aload 0, .iconst (13), .iload 2], [.iload 4, .invokestatic 3, .aload 0, .getstatic 2, .aload 0, .getfield 8, .saload, .aload 0, .getfield 12, .iload 4, .invokestatic 3, .iadd, .ireturn, .aload 0, .iconst (30), .iload 2], [.iload 4, .invokestatic 3, .aload 0, .getfield 12, .isub, .ireturn, .aload 0, .iconst (12), .iload 2, .iconst (1), .iadd, .iload 4, .invokestatic 3, .ireturn, .iconst (0), .aload 0], [.iconst (11), .iload 2, .iload 4, .invokestatic 3, .isub, .ireturn, .aload 0, .iconst (11), .iload 2, .iload 4, .invokestatic 3, .aload 0, .getfield 16, .ixor, .ireturn, .aload 0], [.iconst (13), .iload 2, .iload 4, .invokestatic 3, .iconst (2), .imul, .ireturn, .aload 0, .getfield 16, .iload 2, .isub, .ireturn, .aload 0, .getstatic 0, .aload 0, .getfield 8], [.saload, .iload 2, .iload 4, .invokestatic 3, .aload 0, .getfield 12, .imul, .ireturn, .iload 2, .aload 0, .getfield 16, .ior, .ireturn, .aload 0, .getstatic 1, .aload 0], [.getfield 8, .saload, .iload 2, .iload 4, .invokestatic 3, .aload 0, .getstatic 2, .aload 0, .getfield 8, .saload, .aload 0, .getfield 12, .iload 4, .invokestatic 3, .isub, .ireturn], [.iconst (0), .ireturn]]
/-- OneIsTwo$Actor.parted(I)I -/
def pm_4 : List (List Instr) := [[.aload 0, .getfield 16, .aload 0, .getfield 12, .if_icmp .ne 10, .aload 0, .iconst (1), .putfield 23, .iconst (0), .ireturn, .iload 1, .aload 0, .getfield 16, .aload 0, .getfield 12, .isub], [.idiv, .ireturn]]
/-- OneIsTwo$Claim.<init>()V -/
def pm_5 : List (List Instr) := [[.aload 0, .monitorenter, .return_]]
/-- OneIsTwo$Claim.set(IIIII)V -/
def pm_6 : List (List Instr) := [[.aload 0, .iload 1, .putfield 256, .aload 0, .iload 2, .putfield 260, .aload 0, .iload 3, .putfield 264, .aload 0, .iload 4, .putfield 268, .aload 0, .iload 5, .putfield 272, .return_]]
/-- OneIsTwo$Event.<init>()V -/
def pm_7 : List (List Instr) := [[.aload 0, .monitorenter, .return_]]
/-- OneIsTwo$Event.set(III)V -/
def pm_8 : List (List Instr) := [[.aload 0, .iload 1, .putfield 512, .aload 0, .iload 2, .putfield 516, .aload 0, .iload 3, .putfield 520, .return_]]
/-- OneIsTwo$Law.<init>()V -/
def pm_9 : List (List Instr) := [[.aload 0, .monitorenter, .aload 0, .iconst (10), .newarray .int, .putfield 770, .aload 0, .iconst (10), .newarray .int, .putfield 774, .aload 0, .iconst (11), .newarray .int, .putfield 778, .aload 0, .iconst (200)], [.newarray .int, .putfield 782, .return_]]
/-- OneIsTwo$Law.valueNames(I)Ljava/lang/String; -/
def pm_10 : List (List Instr) := [[.iload 0, .tableswitch 12 0 5 #[2, 2, 4, 6, 8, 10], .ldc 0, .areturn, .ldc 1, .areturn, .ldc 2, .areturn, .ldc 3, .areturn, .ldc 4, .areturn, .ldc 5, .areturn]]
/-- OneIsTwo$Law.clear()V -/
def pm_11 : List (List Instr) := [[.aload 0, .iconst (0), .putfield 784, .aload 0, .getfield 778, .iconst (0), .iconst (0), .iastore, .aload 0, .getfield 778, .iconst (1), .iconst (0), .iastore, .return_]]
/-- OneIsTwo$Law.addCode(I)V -/
def pm_12 : List (List Instr) := [[.aload 0, .getfield 778, .aload 0, .getfield 784, .iconst (1), .iadd, .iaload, .istore 2, .iload 2, .aload 0, .getfield 782, .arraylength, .if_icmp .lt 14, .return_, .aload 0, .getfield 782], [.iload 2, .iload 1, .iastore, .aload 0, .getfield 778, .aload 0, .getfield 784, .iconst (1), .iadd, .iload 2, .iconst (1), .iadd, .iastore, .return_]]
/-- OneIsTwo$Law.closeClause(II)V -/
def pm_13 : List (List Instr) := [[.aload 0, .getfield 770, .aload 0, .getfield 784, .iload 1, .iastore, .aload 0, .getfield 774, .aload 0, .getfield 784, .iload 2, .iastore, .aload 0, .dup, .getfield 784, .iconst (1)], [.iadd, .putfield 784, .aload 0, .getfield 784, .iconst (10), .if_icmp .ge 34, .aload 0, .getfield 778, .aload 0, .getfield 784, .iconst (1), .iadd, .aload 0, .getfield 778, .aload 0, .getfield 784], [.iaload, .iastore, .return_]]
/-- OneIsTwo$Law.copyFrom(LOneIsTwo$Law;)V -/
def pm_14 : List (List Instr) := [[.aload 0, .aload 1, .getfield 784, .putfield 784, .aload 1, .getfield 770, .iconst (0), .aload 0, .getfield 770, .iconst (0), .aload 0, .getfield 784, .monitorexit, .aload 1, .getfield 774, .iconst (0)], [.aload 0, .getfield 774, .iconst (0), .aload 0, .getfield 784, .monitorexit, .aload 1, .getfield 778, .iconst (0), .aload 0, .getfield 778, .iconst (0), .aload 0, .getfield 784, .iconst (1), .iadd], [.monitorexit, .aload 1, .getfield 782, .iconst (0), .aload 0, .getfield 782, .iconst (0), .aload 0, .getfield 778, .aload 0, .getfield 784, .iaload, .monitorexit, .return_]]
/-- OneIsTwo$Law.valueOf(I[I)I -/
def pm_15 : List (List Instr) := [[.aload 0, .getfield 784, .iconst (1), .isub, .istore 3, .iload 3, .ifCond .lt 25, .aload 0, .getfield 770, .iload 3, .iaload, .iload 1, .if_icmp .ne 23, .aload 0, .iload 3, .aload 2], [.invokestatic 16, .ifCond .eq 23, .aload 0, .getfield 774, .iload 3, .iaload, .ireturn, .iinc 3 (-1), .goto 5, .iconst (0), .ireturn]]
/-- OneIsTwo$Law.holds(I[I)Z -/
def pm_16 : List (List Instr) := [[.iconst (1), .istore 3, .aload 0, .getfield 778, .iload 1, .iaload, .istore 4, .iload 4, .aload 0, .getfield 778, .iload 1, .iconst (1), .iadd, .iaload, .if_icmp .ge 69, .aload 0], [.getfield 782, .iload 4, .iaload, .istore 5, .iload 3, .iconst (1), .iand, .istore 6, .iload 5, .ifCond .lt 39, .iload 3, .iconst (1), .ishl, .iload 5, .aload 2, .invokestatic 17], [.ifCond .eq 35, .iconst (1), .goto 36, .iconst (0), .ior, .istore 3, .goto 67, .iload 5, .bipush (-1), .if_icmp .ne 47, .iload 3, .iconst (1), .ixor, .istore 3, .goto 67, .iload 5], [.bipush (-2), .if_icmp .ne 61, .iload 3, .iconst (1), .ishr, .iload 6, .iconst (2), .isub, .iload 6, .ior, .iand, .istore 3, .goto 67, .iload 3, .iconst (1), .ishr], [.iload 6, .ior, .istore 3, .iinc 4 (1), .goto 7, .iload 3, .iconst (1), .iand, .ifCond .eq 75, .iconst (1), .goto 76, .iconst (0), .freturn]]
/-- OneIsTwo$Law.compares(I[I)Z -/
def pm_17 : List (List Instr) := [[.iload 0, .iconst (16384), .idiv, .iconst (16384), .irem, .istore 2, .iload 0, .iconst (16384), .irem, .istore 3, .iload 2, .iconst (10000), .if_icmp .lt 19, .aload 1, .iload 2, .iconst (10000)], [.isub, .iaload, .istore 2, .iload 3, .iconst (10000), .if_icmp .lt 28, .aload 1, .iload 3, .iconst (10000), .isub, .iaload, .istore 3, .iload 0, .iconst (16384), .idiv, .iconst (16384)], [.idiv, .istore 4, .iload 4, .ifCond .ne 43, .iload 2, .iload 3, .if_icmp .ge 41, .iconst (1), .goto 59, .iconst (0), .goto 59, .iload 4, .iconst (1), .if_icmp .ne 53, .iload 2, .iload 3], [.if_icmp .ne 51, .iconst (1), .goto 59, .iconst (0), .goto 59, .iload 2, .iload 3, .if_icmp .le 58, .iconst (1), .goto 59, .iconst (0), .freturn]]
/-- OneIsTwo$LawReader.<init>([B)V -/
def pm_18 : List (List Instr) := [[.aload 0, .monitorenter, .aload 0, .new 197, .dup, .invokespecial 9, .putfield 1026, .aload 0, .aload 1, .putfield 1030, .return_]]
/-- OneIsTwo$LawReader.open(I)V -/
def pm_19 : List (List Instr) := [[.aload 0, .iload 1, .putfield 1032, .aload 0, .iconst (0), .putfield 1040, .aload 0, .getfield 1026, .invokestatic 11, .aload 0, .invokestatic 27, .return_]]
/-- OneIsTwo$LawReader.isThrough()Z -/
def pm_20 : List (List Instr) := [[.aload 0, .getfield 1044, .bipush (-1), .if_icmp .ne 6, .iconst (1), .goto 7, .iconst (0), .freturn]]
/-- OneIsTwo$LawReader.readClause()Z -/
def pm_21 : List (List Instr) := [[.aload 0, .getfield 1044, .bipush (-2), .if_icmp .ne 8, .aload 0, .ldc 6, .invokestatic 30, .goto 9, .bipush (-1), .istore 1, .iload 1, .ifCond .lt 17, .aload 0, .getfield 1026, .getfield 784, .iconst (10)], [.if_icmp .lt 19, .iconst (0), .freturn, .aload 0, .invokestatic 27, .aload 0, .getfield 1044, .bipush (-2), .if_icmp .ne 30, .aload 0, .iload 1, .invokestatic 10, .invokestatic 30, .goto 31, .bipush (-1), .istore 2], [.iload 2, .ifCond .ge 36, .iconst (0), .freturn, .aload 0, .invokestatic 27, .aload 0, .ldc 7, .invokestatic 29, .ifCond .eq 50, .aload 0, .invokestatic 27, .aload 0, .iconst (0), .invokestatic 22, .ifCond .ne 50], [.iconst (0), .freturn, .aload 0, .getfield 1044, .iconst (59), .if_icmp .eq 56, .iconst (0), .freturn, .aload 0, .getfield 1026, .iload 1, .iload 2, .invokestatic 13, .aload 0, .invokestatic 27, .iconst (1)], [.freturn]]
/-- OneIsTwo$LawReader.readAnyOf(I)Z -/
def pm_22 : List (List Instr) := [[.aload 0, .iload 1, .invokestatic 23, .ifCond .ne 6, .iconst (0), .freturn, .iconst (0), .istore 2, .iload 2, .aload 0, .getfield 1032, .if_icmp .ge 30, .aload 0, .ldc 8, .invokestatic 29, .ifCond .eq 30], [.aload 0, .invokestatic 27, .aload 0, .iload 1, .invokestatic 23, .ifCond .ne 24, .iconst (0), .freturn, .aload 0, .getfield 1026, .bipush (-3), .invokestatic 12, .iinc 2 (1), .goto 8, .iconst (1), .freturn]]
/-- OneIsTwo$LawReader.readAllOf(I)Z -/
def pm_23 : List (List Instr) := [[.aload 0, .iload 1, .invokestatic 24, .ifCond .ne 6, .iconst (0), .freturn, .iconst (0), .istore 2, .iload 2, .aload 0, .getfield 1032, .if_icmp .ge 30, .aload 0, .ldc 9, .invokestatic 29, .ifCond .eq 30], [.aload 0, .invokestatic 27, .aload 0, .iload 1, .invokestatic 24, .ifCond .ne 24, .iconst (0), .freturn, .aload 0, .getfield 1026, .bipush (-2), .invokestatic 12, .iinc 2 (1), .goto 8, .iconst (1), .freturn]]
/-- OneIsTwo$LawReader.readOne(I)Z -/
def pm_24 : List (List Instr) := [[.iconst (0), .istore 2, .iconst (0), .istore 3, .iload 3, .aload 0, .getfield 1032, .if_icmp .ge 22, .aload 0, .ldc 10, .invokestatic 29, .ifCond .eq 22, .iload 2, .ifCond .ne 16, .iconst (1), .goto 17], [.iconst (0), .istore 2, .aload 0, .invokestatic 27, .iinc 3 (1), .goto 4, .aload 0, .getfield 1044, .iconst (40), .if_icmp .ne 48, .iload 1, .iconst (3), .if_icmp .lt 31, .iconst (0), .freturn, .aload 0], [.invokestatic 27, .aload 0, .iload 1, .iconst (1), .iadd, .invokestatic 22, .ifCond .eq 43, .aload 0, .getfield 1044, .iconst (41), .if_icmp .eq 45, .iconst (0), .freturn, .aload 0, .invokestatic 27, .goto 53], [.aload 0, .invokestatic 25, .ifCond .ne 53, .iconst (0), .freturn, .iload 2, .ifCond .eq 59, .aload 0, .getfield 1026, .bipush (-1), .invokestatic 12, .iconst (1), .freturn]]
/-- OneIsTwo$LawReader.readComparison()Z -/
def pm_25 : List (List Instr) := [[.aload 0, .invokestatic 26, .istore 1, .iload 1, .ifCond .ge 7, .iconst (0), .freturn, .aload 0, .invokestatic 27, .aload 0, .getfield 1044, .iconst (60), .isub, .istore 2, .iload 2, .ifCond .lt 19], [.iload 2, .iconst (2), .if_icmp .le 21, .iconst (0), .freturn, .aload 0, .invokestatic 27, .aload 0, .invokestatic 26, .istore 3, .iload 3, .ifCond .ge 30, .iconst (0), .freturn, .aload 0, .invokestatic 27], [.aload 0, .getfield 1026, .iload 2, .iconst (16384), .imul, .iload 1, .iadd, .iconst (16384), .imul, .iload 3, .iadd, .invokestatic 12, .iconst (1), .freturn]]
/-- OneIsTwo$LawReader.operand()I -/
def pm_26 : List (List Instr) := [[.aload 0, .getfield 1044, .bipush (-3), .if_icmp .ne 7, .aload 0, .getfield 1048, .ireturn, .aload 0, .getfield 1044, .bipush (-2), .if_icmp .ne 15, .aload 0, .ldc 11, .invokestatic 30, .goto 16, .bipush (-1)], [.istore 1, .iload 1, .ifCond .ge 21, .bipush (-1), .goto 24, .iconst (10000), .iload 1, .iadd, .ireturn]]
/-- OneIsTwo$LawReader.next()V -/
def pm_27 : List (List Instr) := [[.aload 0, .aload 0, .getfield 1040, .putfield 1036, .aload 0, .getfield 1036, .aload 0, .getfield 1032, .if_icmp .ge 23, .aload 0, .getfield 1030, .aload 0, .getfield 1036, .baload, .iconst (32), .if_icmp .ne 23], [.aload 0, .dup, .getfield 1036, .iconst (1), .iadd, .putfield 1036, .goto 4, .aload 0, .aload 0, .getfield 1036, .putfield 1040, .aload 0, .bipush (-1), .putfield 1044, .aload 0, .getfield 1036], [.aload 0, .getfield 1032, .if_icmp .lt 36, .return_, .aload 0, .getfield 1030, .aload 0, .getfield 1036, .baload, .invokestatic 31, .ifCond .eq 65, .aload 0, .bipush (-2), .putfield 1044, .aload 0, .getfield 1040], [.aload 0, .getfield 1032, .if_icmp .ge 90, .aload 0, .getfield 1030, .aload 0, .getfield 1040, .baload, .invokestatic 31, .ifCond .eq 90, .aload 0, .dup, .getfield 1040, .iconst (1), .iadd, .putfield 1040], [.goto 46, .aload 0, .getfield 1030, .aload 0, .getfield 1036, .baload, .invokestatic 32, .ifCond .eq 75, .aload 0, .invokestatic 28, .goto 90, .aload 0, .aload 0, .getfield 1030, .aload 0, .getfield 1036], [.baload, .iconst (255), .iand, .putfield 1044, .aload 0, .dup, .getfield 1040, .iconst (1), .iadd, .putfield 1040, .return_]]
/-- OneIsTwo$LawReader.readNumber()V -/
def pm_28 : List (List Instr) := [[.aload 0, .iconst (0), .putfield 1048, .aload 0, .getfield 1040, .aload 0, .getfield 1032, .if_icmp .ge 43, .aload 0, .getfield 1030, .aload 0, .getfield 1040, .baload, .invokestatic 32, .ifCond .eq 43, .aload 0], [.getfield 1040, .aload 0, .getfield 1036, .isub, .iconst (4), .if_icmp .ge 36, .aload 0, .aload 0, .getfield 1048, .iconst (10), .imul, .aload 0, .getfield 1030, .aload 0, .getfield 1040, .baload], [.iadd, .iconst (48), .isub, .putfield 1048, .aload 0, .dup, .getfield 1040, .iconst (1), .iadd, .putfield 1040, .goto 3, .aload 0, .aload 0, .getfield 1040, .aload 0, .getfield 1036], [.isub, .iconst (4), .if_icmp .le 53, .bipush (-4), .goto 54, .bipush (-3), .putfield 1044, .return_]]
/-- OneIsTwo$LawReader.isWord(Ljava/lang/String;)Z -/
def pm_29 : List (List Instr) := [[.aload 0, .getfield 1044, .bipush (-2), .if_icmp .ne 10, .aload 0, .aload 1, .invokestatic 30, .ifCond .ne 10, .iconst (1), .goto 11, .iconst (0), .freturn]]
/-- OneIsTwo$LawReader.placeAmong(Ljava/lang/String;)I -/
def pm_30 : List (List Instr) := [[.iconst (0), .istore 2, .iconst (0), .istore 3, .iconst (0), .istore 4, .iload 4, .aload 1, .castore, .if_icmp .ge 56, .aload 1, .iload 4, .caload, .istore 5, .iload 5, .iconst (32)], [.if_icmp .ne 30, .iload 3, .aload 0, .getfield 1040, .aload 0, .getfield 1036, .isub, .if_icmp .ne 26, .iload 2, .ireturn, .iinc 2 (1), .iconst (0), .istore 3, .goto 54, .iload 3, .ifCond .lt 52], [.aload 0, .getfield 1036, .iload 3, .iadd, .aload 0, .getfield 1040, .if_icmp .ge 52, .aload 0, .getfield 1030, .aload 0, .getfield 1036, .iload 3, .iadd, .baload, .iload 5, .if_icmp .ne 52], [.iload 3, .iconst (1), .iadd, .goto 53, .bipush (-1), .istore 3, .iinc 4 (1), .goto 6, .iload 3, .aload 0, .getfield 1040, .aload 0, .getfield 1036, .isub, .if_icmp .ne 65, .iload 2], [.goto 66, .bipush (-1), .ireturn]]
/-- OneIsTwo$LawReader.isLetter(I)Z -/
def pm_31 : List (List Instr) := [[.iload 0, .iconst (97), .if_icmp .lt 8, .iload 0, .iconst (122), .if_icmp .gt 8, .iconst (1), .goto 9, .iconst (0), .freturn]]
/-- OneIsTwo$LawReader.isDigit(I)Z -/
def pm_32 : List (List Instr) := [[.iload 0, .iconst (48), .if_icmp .lt 8, .iload 0, .iconst (57), .if_icmp .gt 8, .iconst (1), .goto 9, .iconst (0), .freturn]]
/-- OneIsTwo$Ledger.<init>(LOneIsTwo$World;)V -/
def pm_33 : List (List Instr) := [[.aload 0, .monitorenter, .aload 0, .iconst (12), .newarray .long, .putfield 1286, .aload 0, .aload 1, .putfield 1282, .return_]]
/-- OneIsTwo$Ledger.lowest(JI)J -/
def pm_34 : List (List Instr) := [[.lload 0, .lstore 3, .goto_w (4194304), .lstore 5, .iconst (0), .istore 7, .iload 7, .iconst (22), .if_icmp .ge 25, .lload 3, .goto_w (2), .lrem, .goto_w (0), .lcmp, .ifCond .ne 25, .lload 3], [.goto_w (2), .ldiv, .lstore 3, .lload 5, .goto_w (2), .ldiv, .lstore 5, .iinc 7 (1), .goto 6, .iload 2, .ifCond .ne 29, .lload 3, .goto 30, .lload 5, .lreturn]]
/-- OneIsTwo$Ledger.sumOf(II)J -/
def pm_35 : List (List Instr) := [[.goto_w (0), .lstore 3, .iconst (0), .istore 5, .iload 5, .aload 0, .getfield 1282, .getfield 2604, .if_icmp .ge 38, .aload 0, .getfield 1282, .getfield 2570, .iload 5, .aaload, .getfield 256, .iload 2], [.if_icmp .eq 18, .goto 36, .aload 0, .iload 5, .invokestatic 37, .lload 3, .aload 0, .getfield 1282, .getfield 2570, .iload 5, .aaload, .getfield 264, .i2l, .aload 0, .getfield 1286, .iload 1], [.laload, .lmul, .ladd, .lstore 3, .iinc 5 (1), .goto 4, .lload 3, .lreturn]]
/-- OneIsTwo$Ledger.nextSharer(I)I -/
def pm_36 : List (List Instr) := [[.iload 1, .istore 2, .iload 2, .aload 0, .getfield 1282, .getfield 2596, .if_icmp .ge 18, .aload 0, .getfield 1286, .iload 2, .laload, .goto_w (0), .lcmp, .ifCond .eq 16, .iload 2, .ireturn], [.iinc 2 (1), .goto 2, .bipush (-9), .ireturn]]
/-- OneIsTwo$Ledger.follow(I)V -/
def pm_37 : List (List Instr) := [[.aload 0, .getfield 1282, .getfield 2570, .iload 1, .aaload, .astore 2, .iconst (0), .istore 3, .iload 3, .aload 0, .getfield 1286, .arraylength, .if_icmp .ge 20, .aload 0, .getfield 1286, .iload 3], [.goto_w (0), .lastore, .iinc 3 (1), .goto 8, .aload 0, .getfield 1286, .aload 2, .getfield 260, .goto_w (4194304), .lastore, .aload 2, .getfield 272, .istore 3, .iload 3, .aload 0, .getfield 1282], [.getfield 2600, .if_icmp .ge 107, .aload 0, .getfield 1282, .getfield 2566, .iload 3, .aaload, .astore 4, .aload 0, .getfield 1282, .getfield 2562, .aload 4, .getfield 516, .aaload, .astore 5, .aload 4], [.getfield 512, .iconst (3), .if_icmp .ne 64, .aload 0, .aload 5, .getfield 1800, .aload 4, .getfield 516, .invokestatic 38, .aload 0, .aload 5, .getfield 1804, .aload 4, .getfield 516, .invokestatic 38, .goto 105], [.aload 4, .getfield 512, .iconst (4), .if_icmp .ne 94, .aload 5, .getfield 1796, .invokestatic 149, .ifCond .eq 87, .aload 0, .getfield 1282, .getfield 2562, .aload 5, .getfield 1800, .aaload, .getfield 1824, .iload 3], [.if_icmp .le 87, .aload 0, .aload 4, .getfield 516, .aload 5, .getfield 1800, .invokestatic 38, .aload 0, .getfield 1286, .aload 4, .getfield 516, .goto_w (0), .lastore, .goto 105, .aload 0, .getfield 1282], [.aload 4, .aload 2, .getfield 268, .invokestatic 88, .ifCond .eq 105, .aload 0, .iload 1, .aload 4, .invokestatic 39, .iinc 3 (1), .goto 29, .return_]]
/-- OneIsTwo$Ledger.give(II)V -/
def pm_38 : List (List Instr) := [[.aload 0, .getfield 1286, .iload 2, .goto_w (4194304), .aload 0, .getfield 1286, .iload 2, .laload, .aload 0, .getfield 1286, .iload 1, .laload, .ladd, .i2d, .lastore, .aload 0], [.getfield 1286, .iload 1, .goto_w (0), .lastore, .return_]]
/-- OneIsTwo$Ledger.part(ILOneIsTwo$Event;)V -/
def pm_39 : List (List Instr) := [[.aload 0, .getfield 1282, .getfield 2570, .iload 1, .aaload, .astore 3, .aload 0, .getfield 1282, .getfield 2562, .aload 2, .getfield 516, .aaload, .astore 4, .aload 3, .getfield 256, .ifCond .ne 18], [.iconst (0), .goto 19, .iconst (1), .istore 5, .aload 0, .getfield 1282, .iload 5, .aload 2, .getfield 516, .aload 2, .getfield 520, .aload 3, .getfield 264, .iload 1, .invokestatic 86, .tableswitch 80 1 3 #[32, 39, 69]], [.aload 0, .aload 4, .getfield 1800, .aload 2, .getfield 516, .invokestatic 38, .goto 80, .aload 0, .getfield 1286, .aload 2, .getfield 516, .aload 0, .getfield 1286, .aload 4, .getfield 1800, .laload], [.aload 4, .getfield 1816, .i2l, .lmul, .goto_w (4), .ldiv, .lastore, .aload 0, .getfield 1286, .aload 4, .getfield 1800, .dup2, .laload, .aload 0, .getfield 1286, .aload 2], [.getfield 516, .laload, .lsub, .lastore, .goto 80, .aload 0, .getfield 1286, .aload 2, .getfield 516, .aload 0, .getfield 1286, .aload 4, .getfield 1800, .laload, .lastore, .goto 80], [.return_]]
/-- OneIsTwo$Minds.<init>(LOneIsTwo$World;)V -/
def pm_40 : List (List Instr) := [[.aload 0, .monitorenter, .aload 0, .iconst (12), .newarray .int, .putfield 1542, .aload 0, .iconst (66), .newarray .int, .putfield 1546, .aload 0, .aload 1, .putfield 1538, .return_]]
/-- OneIsTwo$Minds.recall()V -/
def pm_41 : List (List Instr) := [[.iconst (0), .istore 1, .iload 1, .aload 0, .getfield 1538, .getfield 2596, .if_icmp .ge 83, .aload 0, .getfield 1538, .getfield 2562, .iload 1, .aaload, .astore 2, .iconst (0), .istore 3, .aload 2], [.getfield 1796, .iconst (4), .if_icmp .ne 31, .aload 0, .getfield 1542, .aload 2, .getfield 1800, .iaload, .aload 0, .getfield 1542, .aload 2, .getfield 1804, .iaload, .ior, .istore 3, .aload 2], [.getfield 1796, .invokestatic 149, .ifCond .eq 46, .aload 0, .getfield 1542, .aload 2, .getfield 1800, .iaload, .aload 0, .aload 2, .getfield 1812, .invokestatic 42, .iand, .istore 3, .aload 2, .getfield 1796], [.iconst (3), .if_icmp .ne 54, .iload 3, .iconst (341), .iand, .istore 3, .iconst (0), .istore 4, .iload 4, .aload 0, .getfield 1538, .getfield 2612, .if_icmp .ge 76, .aload 0, .getfield 1538, .getfield 2578], [.iload 4, .iaload, .iload 1, .if_icmp .ne 74, .iload 3, .iconst (1), .iload 4, .ishl, .ior, .istore 3, .iinc 4 (1), .goto 56, .aload 0, .getfield 1542, .iload 1, .iload 3], [.iastore, .iinc 1 (1), .goto 2, .return_]]
/-- OneIsTwo$Minds.toldUpTo(I)I -/
def pm_42 : List (List Instr) := [[.iconst (0), .istore 2, .iconst (0), .istore 3, .iload 3, .aload 0, .getfield 1538, .getfield 2612, .if_icmp .ge 24, .aload 0, .getfield 1538, .getfield 2582, .iload 3, .iaload, .iload 1, .if_icmp .gt 22], [.iload 2, .iconst (1), .iload 3, .ishl, .ior, .istore 2, .iinc 3 (1), .goto 4, .iload 2, .ireturn]]
/-- OneIsTwo$Minds.leastApart(II)I -/
def pm_43 : List (List Instr) := [[.aload 0, .invokestatic 41, .iconst (0), .istore 3, .iload 3, .aload 0, .getfield 1538, .getfield 2612, .if_icmp .ge 27, .aload 0, .getfield 1542, .iload 1, .iaload, .aload 0, .getfield 1542, .iload 2], [.iaload, .ixor, .iload 3, .ishr, .iconst (1), .iand, .ifCond .eq 25, .iload 3, .ireturn, .iinc 3 (1), .goto 4, .bipush (-9), .ireturn]]
/-- OneIsTwo$Minds.fewestDeeds()I -/
def pm_44 : List (List Instr) := [[.aload 0, .invokestatic 41, .aload 0, .invokestatic 45, .istore 1, .iconst (1), .aload 0, .getfield 1538, .getfield 2612, .ishl, .iconst (1), .isub, .istore 2, .iload 2, .istore 3, .aload 0], [.getfield 1538, .getfield 2612, .istore 4, .iconst (0), .istore 5, .iload 5, .iload 2, .if_icmp .ge 42, .iload 5, .invokestatic 271, .istore 6, .iload 6, .iload 4, .if_icmp .ge 40, .aload 0, .iload 5], [.iload 1, .invokestatic 46, .ifCond .ne 36, .goto 40, .iload 5, .istore 3, .iload 6, .istore 4, .iinc 5 (1), .goto 21, .iload 3, .ireturn]]
/-- OneIsTwo$Minds.findApart()I -/
def pm_45 : List (List Instr) := [[.iconst (0), .istore 1, .iconst (0), .istore 2, .iload 2, .aload 0, .getfield 1538, .getfield 2596, .if_icmp .ge 58, .iconst (0), .istore 3, .iload 3, .iload 2, .if_icmp .ge 56, .aload 0, .getfield 1538], [.iload 2, .invokestatic 69, .ifCond .ne 54, .aload 0, .getfield 1538, .iload 3, .invokestatic 69, .ifCond .ne 54, .aload 0, .getfield 1542, .iload 2, .iaload, .aload 0, .getfield 1542, .iload 3, .iaload], [.if_icmp .ne 34, .goto 54, .iload 1, .aload 0, .getfield 1546, .arraylength, .if_icmp .lt 40, .goto 54, .aload 0, .getfield 1546, .iload 1, .aload 0, .getfield 1542, .iload 2, .iaload, .aload 0], [.getfield 1542, .iload 3, .iaload, .ixor, .iastore, .iinc 1 (1), .iinc 3 (1), .goto 11, .iinc 2 (1), .goto 4, .iload 1, .ireturn]]
/-- OneIsTwo$Minds.tellApart(II)Z -/
def pm_46 : List (List Instr) := [[.iconst (0), .istore 3, .iload 3, .iload 2, .if_icmp .ge 16, .aload 0, .getfield 1546, .iload 3, .iaload, .iload 1, .iand, .ifCond .ne 14, .iconst (0), .freturn, .iinc 3 (1), .goto 2], [.iconst (1), .freturn]]
/-- OneIsTwo$Minds.whoAnswers(I)I -/
def pm_47 : List (List Instr) := [[.aload 0, .getfield 1538, .getfield 2578, .iload 1, .iaload, .istore 2, .aload 0, .getfield 1538, .iconst (2), .iload 2, .invokestatic 87, .lookupswitch 23 #[(1, 12), (2, 16)], .aload 0, .iload 1, .invokestatic 50, .ireturn], [.aload 0, .aload 0, .getfield 1538, .iload 2, .invokestatic 89, .invokestatic 49, .ireturn, .aload 0, .aload 0, .iload 2, .invokestatic 48, .invokestatic 49, .ireturn]]
/-- OneIsTwo$Minds.bodyOf(I)I -/
def pm_48 : List (List Instr) := [[.iload 1, .istore 2, .iconst (0), .istore 3, .iload 3, .aload 0, .getfield 1538, .getfield 2596, .if_icmp .ge 25, .aload 0, .getfield 1538, .getfield 2562, .iload 2, .aaload, .getfield 1820, .ifCond .lt 25], [.aload 0, .getfield 1538, .getfield 2562, .iload 2, .aaload, .getfield 1820, .istore 2, .iinc 3 (1), .goto 4, .iload 2, .ireturn]]
/-- OneIsTwo$Minds.unlessEnded(I)I -/
def pm_49 : List (List Instr) := [[.aload 0, .getfield 1538, .iload 1, .invokestatic 69, .ifCond .eq 7, .iconst (0), .goto 10, .iconst (1), .iload 1, .ishl, .ireturn]]
/-- OneIsTwo$Minds.allWhoKnow(I)I -/
def pm_50 : List (List Instr) := [[.aload 0, .invokestatic 41, .iconst (0), .istore 2, .iconst (0), .istore 3, .iload 3, .aload 0, .getfield 1538, .getfield 2596, .if_icmp .ge 32, .aload 0, .iload 3, .invokestatic 51, .ifCond .eq 30, .aload 0], [.getfield 1542, .iload 3, .iaload, .iload 1, .ishr, .iconst (1), .iand, .ifCond .eq 30, .iload 2, .iconst (1), .iload 3, .ishl, .ior, .istore 2, .iinc 3 (1), .goto 6], [.iload 2, .ireturn]]
/-- OneIsTwo$Minds.isCounted(I)Z -/
def pm_51 : List (List Instr) := [[.aload 0, .getfield 1538, .iload 1, .invokestatic 68, .ifCond .eq 14, .aload 0, .getfield 1538, .getfield 2562, .iload 1, .aaload, .getfield 1832, .ifCond .ne 14, .iconst (1), .goto 15, .iconst (0), .freturn]]
/-- OneIsTwo$Minds.voteBelow(I)I -/
def pm_52 : List (List Instr) := [[.aload 0, .iload 1, .invokestatic 51, .ifCond .ne 6, .iconst (0), .ireturn, .aload 0, .getfield 1538, .iload 1, .invokestatic 89, .istore 2, .iconst (0), .istore 3, .iconst (1), .istore 4, .iconst (0)], [.istore 5, .iload 5, .aload 0, .getfield 1538, .getfield 2596, .if_icmp .ge 41, .aload 0, .iload 5, .invokestatic 51, .ifCond .eq 39, .aload 0, .getfield 1538, .iload 5, .invokestatic 89, .iload 2, .if_icmp .eq 33], [.goto 39, .iinc 3 (1), .iload 5, .iload 1, .if_icmp .ge 39, .iconst (0), .istore 4, .iinc 5 (1), .goto 17, .aload 0, .getfield 1538, .iconst (3), .iload 1, .invokestatic 87, .lookupswitch 55 #[(1, 47), (2, 53)], .iload 4], [.ifCond .eq 51, .iconst (1), .goto 52, .iconst (0), .ireturn, .iload 3, .ireturn, .iconst (1), .ireturn]]
/-- OneIsTwo$Minds.votesOf(I)I -/
def pm_53 : List (List Instr) := [[.iconst (0), .istore 2, .iconst (0), .istore 3, .iconst (1), .istore 4, .iconst (0), .istore 5, .iload 5, .aload 0, .getfield 1538, .getfield 2596, .if_icmp .ge 37, .aload 0, .getfield 1538, .iload 5], [.invokestatic 89, .iload 1, .if_icmp .ne 23, .aload 0, .iload 5, .invokestatic 52, .goto 24, .iconst (0), .istore 6, .iload 6, .iconst (1), .if_icmp .ne 29, .iinc 2 (1), .iload 6, .iconst (1), .if_icmp .le 35], [.iinc 3 (1), .iload 6, .istore 4, .iinc 5 (1), .goto 8, .iload 2, .iload 3, .iload 4, .idiv, .iadd, .ireturn]]
/-- OneIsTwo$Person.<init>()V -/
def pm_54 : List (List Instr) := [[.aload 0, .monitorenter, .return_]]
/-- OneIsTwo$Person.begin(II)V -/
def pm_55 : List (List Instr) := [[.aload 0, .iload 1, .putfield 1792, .aload 0, .iload 1, .putfield 1796, .aload 0, .bipush (-9), .putfield 1800, .aload 0, .bipush (-9), .putfield 1804, .aload 0, .iload 2, .putfield 1808, .aload 0], [.bipush (-9), .putfield 1812, .aload 0, .bipush (-9), .putfield 1816, .aload 0, .bipush (-9), .putfield 1820, .aload 0, .iconst (2147483647), .putfield 1824, .aload 0, .iconst (1), .putfield 1831, .aload 0, .iconst (0)], [.putfield 1835, .aload 0, .iconst (0), .putfield 1839, .return_]]
/-- OneIsTwo$Person.copyFrom(LOneIsTwo$Person;)V -/
def pm_56 : List (List Instr) := [[.aload 0, .aload 1, .getfield 1792, .putfield 1792, .aload 0, .aload 1, .getfield 1796, .putfield 1796, .aload 0, .aload 1, .getfield 1800, .putfield 1800, .aload 0, .aload 1, .getfield 1804, .putfield 1804], [.aload 0, .aload 1, .getfield 1808, .putfield 1808, .aload 0, .aload 1, .getfield 1812, .putfield 1812, .aload 0, .aload 1, .getfield 1816, .putfield 1816, .aload 0, .aload 1, .getfield 1820, .putfield 1820], [.aload 0, .aload 1, .getfield 1824, .putfield 1824, .aload 0, .aload 1, .getfield 1828, .putfield 1831, .aload 0, .aload 1, .getfield 1832, .putfield 1835, .aload 0, .aload 1, .getfield 1836, .putfield 1839], [.return_]]
/-- OneIsTwo$Sides.<init>(LOneIsTwo$World;)V -/
def pm_57 : List (List Instr) := [[.aload 0, .monitorenter, .aload 0, .aload 1, .putfield 2050, .return_]]
/-- OneIsTwo$Sides.across(I)I -/
def pm_58 : List (List Instr) := [[.iconst (0), .istore 2, .iconst (0), .istore 3, .iload 3, .aload 0, .getfield 2050, .getfield 2608, .if_icmp .ge 49, .aload 0, .getfield 2050, .getfield 2574, .iload 3, .aaload, .astore 4, .aload 0], [.aload 4, .aload 4, .getfield 2304, .invokestatic 59, .istore 5, .aload 0, .aload 4, .aload 4, .getfield 2308, .invokestatic 59, .istore 6, .iload 5, .iload 1, .ishr, .iconst (1), .iand], [.ifCond .eq 37, .iload 2, .iload 6, .ior, .istore 2, .iload 6, .iload 1, .ishr, .iconst (1), .iand, .ifCond .eq 47, .iload 2, .iload 5, .ior, .istore 2, .iinc 3 (1)], [.goto 4, .iload 2, .iconst (1), .iload 1, .ishl, .bipush (-1), .ixor, .iand, .ireturn]]
/-- OneIsTwo$Sides.follow(LOneIsTwo$Wedding;I)I -/
def pm_59 : List (List Instr) := [[.iconst (1), .iload 2, .ishl, .istore 3, .aload 1, .getfield 2316, .istore 4, .iload 4, .aload 0, .getfield 2050, .getfield 2600, .if_icmp .ge 90, .aload 0, .getfield 2050, .getfield 2566, .iload 4], [.aaload, .astore 5, .aload 0, .getfield 2050, .getfield 2562, .aload 5, .getfield 516, .aaload, .astore 6, .aload 5, .getfield 512, .iconst (3), .if_icmp .ne 55, .iconst (1), .aload 6, .getfield 1800], [.ishl, .iconst (1), .aload 6, .getfield 1804, .ishl, .ior, .istore 7, .iload 3, .iload 7, .iand, .ifCond .eq 54, .iload 3, .iload 7, .bipush (-1), .ixor, .iand], [.iconst (1), .aload 5, .getfield 516, .ishl, .ior, .istore 3, .goto 88, .aload 5, .getfield 512, .iconst (4), .if_icmp .ne 69, .iload 3, .iconst (1), .aload 5, .getfield 516, .ishl], [.bipush (-1), .ixor, .iand, .istore 3, .goto 88, .aload 0, .getfield 2050, .aload 5, .aload 1, .getfield 2312, .invokestatic 88, .ifCond .eq 88, .iload 3, .aload 6, .getfield 1800, .ishr], [.iconst (1), .iand, .ifCond .eq 88, .aload 0, .iload 3, .aload 5, .invokestatic 60, .istore 3, .iinc 4 (1), .goto 7, .iload 3, .ireturn]]
/-- OneIsTwo$Sides.withCopy(ILOneIsTwo$Event;)I -/
def pm_60 : List (List Instr) := [[.iconst (1), .aload 0, .getfield 2050, .getfield 2562, .aload 2, .getfield 516, .aaload, .getfield 1800, .ishl, .istore 3, .iconst (1), .aload 2, .getfield 516, .ishl, .istore 4, .aload 0], [.getfield 2050, .iconst (4), .aload 2, .getfield 516, .aload 2, .getfield 520, .iconst (0), .iconst (0), .invokestatic 86, .tableswitch 44 1 3 #[26, 34, 38], .iload 1, .iload 3, .bipush (-1), .ixor, .iand, .iload 4], [.ior, .ireturn, .iload 1, .iload 4, .ior, .ireturn, .iload 1, .iload 3, .bipush (-1), .ixor, .iand, .ireturn, .iload 1, .ireturn]]
/-- OneIsTwo$Wedding.<init>()V -/
def pm_61 : List (List Instr) := [[.aload 0, .monitorenter, .return_]]
/-- OneIsTwo$Wedding.set(IIII)V -/
def pm_62 : List (List Instr) := [[.aload 0, .iload 1, .putfield 2304, .aload 0, .iload 2, .putfield 2308, .aload 0, .iload 3, .putfield 2312, .aload 0, .iload 4, .putfield 2316, .return_]]
/-- OneIsTwo$World.<init>()V -/
def pm_63 : List (List Instr) := [[.aload 0, .monitorenter, .aload 0, .iconst (12), .anewarray 7, .putfield 2562, .aload 0, .iconst (18), .anewarray 2, .putfield 2566, .aload 0, .iconst (12), .anewarray 1, .putfield 2570, .aload 0, .iconst (8)], [.anewarray 9, .putfield 2574, .aload 0, .iconst (10), .newarray .int, .putfield 2578, .aload 0, .iconst (10), .newarray .int, .putfield 2582, .aload 0, .new 197, .dup, .invokespecial 9, .putfield 2586, .aload 0], [.iconst (6), .newarray .int, .putfield 2590, .aload 0, .iconst (1), .putfield 2616, .iconst (0), .istore 1, .iload 1, .aload 0, .getfield 2562, .arraylength, .if_icmp .ge 54, .aload 0, .getfield 2562, .iload 1], [.new 460, .dup, .invokespecial 54, .aastore, .iinc 1 (1), .goto 40, .iconst (0), .istore 1, .iload 1, .aload 0, .getfield 2566, .arraylength, .if_icmp .ge 70, .aload 0, .getfield 2566, .iload 1], [.new 131, .dup, .invokespecial 7, .aastore, .iinc 1 (1), .goto 56, .iconst (0), .istore 1, .iload 1, .aload 0, .getfield 2570, .arraylength, .if_icmp .ge 86, .aload 0, .getfield 2570, .iload 1], [.new 69, .dup, .invokespecial 5, .aastore, .iinc 1 (1), .goto 72, .iconst (0), .istore 1, .iload 1, .aload 0, .getfield 2574, .arraylength, .if_icmp .ge 102, .aload 0, .getfield 2574, .iload 1], [.new 580, .dup, .invokespecial 61, .aastore, .iinc 1 (1), .goto 88, .return_]]
/-- OneIsTwo$World.copyFrom(LOneIsTwo$World;)V -/
def pm_64 : List (List Instr) := [[.aload 0, .aload 1, .getfield 2592, .putfield 2592, .aload 0, .aload 1, .getfield 2596, .putfield 2596, .aload 0, .aload 1, .getfield 2600, .putfield 2600, .aload 0, .aload 1, .getfield 2604, .putfield 2604], [.aload 0, .aload 1, .getfield 2608, .putfield 2608, .aload 0, .aload 1, .getfield 2612, .putfield 2612, .aload 0, .aload 1, .getfield 2616, .putfield 2616, .iconst (0), .istore 2, .iload 2, .aload 0], [.getfield 2596, .if_icmp .ge 45, .aload 0, .getfield 2562, .iload 2, .aaload, .aload 1, .getfield 2562, .iload 2, .aaload, .invokestatic 56, .iinc 2 (1), .goto 30, .iconst (0), .istore 2, .iload 2], [.aload 0, .getfield 2600, .if_icmp .ge 69, .aload 1, .getfield 2566, .iload 2, .aaload, .astore 3, .aload 0, .getfield 2566, .iload 2, .aaload, .aload 3, .getfield 512, .aload 3, .getfield 516], [.aload 3, .getfield 520, .invokestatic 8, .iinc 2 (1), .goto 47, .iconst (0), .istore 2, .iload 2, .aload 0, .getfield 2604, .if_icmp .ge 97, .aload 1, .getfield 2570, .iload 2, .aaload, .astore 3], [.aload 0, .getfield 2570, .iload 2, .aaload, .aload 3, .getfield 256, .aload 3, .getfield 260, .aload 3, .getfield 264, .aload 3, .getfield 268, .aload 3, .getfield 272, .invokestatic 6, .iinc 2 (1)], [.goto 71, .iconst (0), .istore 2, .iload 2, .aload 0, .getfield 2608, .if_icmp .ge 123, .aload 1, .getfield 2574, .iload 2, .aaload, .astore 3, .aload 0, .getfield 2574, .iload 2, .aaload], [.aload 3, .getfield 2304, .aload 3, .getfield 2308, .aload 3, .getfield 2312, .aload 3, .getfield 2316, .invokestatic 62, .iinc 2 (1), .goto 99, .aload 1, .getfield 2578, .iconst (0), .aload 0, .getfield 2578], [.iconst (0), .aload 0, .getfield 2612, .monitorexit, .aload 1, .getfield 2582, .iconst (0), .aload 0, .getfield 2582, .iconst (0), .aload 0, .getfield 2612, .monitorexit, .aload 0, .getfield 2586, .aload 1], [.getfield 2586, .invokestatic 14, .return_]]
/-- OneIsTwo$World.isPerson(I)Z -/
def pm_65 : List (List Instr) := [[.iload 1, .ifCond .lt 8, .iload 1, .aload 0, .getfield 2596, .if_icmp .ge 8, .iconst (1), .goto 9, .iconst (0), .freturn]]
/-- OneIsTwo$World.isClaim(I)Z -/
def pm_66 : List (List Instr) := [[.iload 1, .ifCond .lt 8, .iload 1, .aload 0, .getfield 2604, .if_icmp .ge 8, .iconst (1), .goto 9, .iconst (0), .freturn]]
/-- OneIsTwo$World.isDeed(I)Z -/
def pm_67 : List (List Instr) := [[.iload 1, .ifCond .lt 8, .iload 1, .aload 0, .getfield 2612, .if_icmp .ge 8, .iconst (1), .goto 9, .iconst (0), .freturn]]
/-- OneIsTwo$World.isAwake(I)Z -/
def pm_68 : List (List Instr) := [[.aload 0, .getfield 2562, .iload 1, .aaload, .getfield 1792, .iconst (1), .if_icmp .lt 16, .aload 0, .getfield 2562, .iload 1, .aaload, .getfield 1792, .iconst (4), .if_icmp .gt 16, .iconst (1), .goto 17], [.iconst (0), .freturn]]
/-- OneIsTwo$World.isEnded(I)Z -/
def pm_69 : List (List Instr) := [[.aload 0, .getfield 2562, .iload 1, .aaload, .getfield 1792, .iconst (6), .if_icmp .ne 9, .iconst (1), .goto 10, .iconst (0), .freturn]]
/-- OneIsTwo$World.countAwake()I -/
def pm_70 : List (List Instr) := [[.iconst (0), .istore 1, .iconst (0), .istore 2, .iload 2, .aload 0, .getfield 2596, .if_icmp .ge 15, .aload 0, .iload 2, .invokestatic 68, .ifCond .eq 13, .iinc 1 (1), .iinc 2 (1), .goto 4, .iload 1], [.ireturn]]
/-- OneIsTwo$World.hasRoomForOne()Z -/
def pm_71 : List (List Instr) := [[.aload 0, .getfield 2596, .aload 0, .getfield 2562, .arraylength, .if_icmp .ge 11, .aload 0, .invokestatic 72, .ifCond .eq 11, .iconst (1), .goto 12, .iconst (0), .freturn]]
/-- OneIsTwo$World.hasRoomForEvent()Z -/
def pm_72 : List (List Instr) := [[.aload 0, .getfield 2600, .aload 0, .getfield 2566, .arraylength, .if_icmp .ge 8, .iconst (1), .goto 9, .iconst (0), .freturn]]
/-- OneIsTwo$World.addFirst()I -/
def pm_73 : List (List Instr) := [[.aload 0, .invokestatic 71, .ifCond .ne 5, .bipush (-2), .ireturn, .aload 0, .iconst (1), .iconst (0), .invokestatic 78, .ireturn]]
/-- OneIsTwo$World.addCopy(IIIIZ)I -/
def pm_74 : List (List Instr) := [[.aload 0, .invokestatic 71, .ifCond .ne 5, .bipush (-2), .ireturn, .aload 0, .iload 2, .iconst (1), .invokestatic 78, .istore 6, .aload 0, .getfield 2562, .iload 6, .aaload, .astore 7, .aload 7], [.iload 1, .putfield 1800, .aload 7, .iload 4, .putfield 1812, .aload 7, .iload 2, .iconst (3), .if_icmp .ne 27, .iload 3, .goto 28, .iconst (2), .putfield 1816, .aload 7, .iload 5, .putfield 1831], [.aload 0, .iload 6, .invokestatic 85, .iload 6, .ireturn]]
/-- OneIsTwo$World.addJoined(II)I -/
def pm_75 : List (List Instr) := [[.aload 0, .invokestatic 71, .ifCond .ne 5, .bipush (-2), .ireturn, .aload 0, .iload 1, .aload 0, .getfield 2596, .invokestatic 79, .aload 0, .iload 2, .aload 0, .getfield 2596, .invokestatic 79, .aload 0], [.iconst (4), .iconst (3), .invokestatic 78, .istore 3, .aload 0, .getfield 2562, .iload 3, .aaload, .iload 1, .putfield 1800, .aload 0, .getfield 2562, .iload 3, .aaload, .iload 2, .putfield 1804], [.iload 3, .ireturn]]
/-- OneIsTwo$World.wakeOne(I)I -/
def pm_76 : List (List Instr) := [[.aload 0, .invokestatic 72, .ifCond .ne 5, .bipush (-2), .ireturn, .aload 0, .getfield 2562, .iload 1, .aaload, .iconst (2), .putfield 1792, .aload 0, .iconst (2), .iload 1, .invokestatic 80, .iconst (1)], [.ireturn]]
/-- OneIsTwo$World.endOne(I)I -/
def pm_77 : List (List Instr) := [[.aload 0, .invokestatic 72, .ifCond .ne 5, .bipush (-2), .ireturn, .aload 0, .iload 1, .bipush (-9), .invokestatic 79, .aload 0, .iconst (4), .iload 1, .invokestatic 80, .aload 0, .invokestatic 70, .ireturn]]
/-- OneIsTwo$World.come(II)I -/
def pm_78 : List (List Instr) := [[.aload 0, .getfield 2596, .istore 3, .aload 0, .getfield 2562, .iload 3, .aaload, .iload 1, .aload 0, .getfield 2592, .invokestatic 55, .aload 0, .dup, .getfield 2596, .iconst (1), .iadd], [.putfield 2596, .aload 0, .iload 2, .iload 3, .invokestatic 80, .iload 3, .ireturn]]
/-- OneIsTwo$World.goAway(II)V -/
def pm_79 : List (List Instr) := [[.aload 0, .getfield 2562, .iload 1, .aaload, .iconst (6), .putfield 1792, .aload 0, .getfield 2562, .iload 1, .aaload, .iload 2, .putfield 1820, .aload 0, .getfield 2562, .iload 1, .aaload], [.aload 0, .getfield 2600, .putfield 1824, .return_]]
/-- OneIsTwo$World.tell(II)V -/
def pm_80 : List (List Instr) := [[.aload 0, .getfield 2566, .aload 0, .getfield 2600, .aaload, .iload 1, .iload 2, .aload 0, .getfield 2592, .invokestatic 8, .aload 0, .dup, .getfield 2600, .iconst (1), .iadd, .putfield 2600], [.return_]]
/-- OneIsTwo$World.addClaim(III)I -/
def pm_81 : List (List Instr) := [[.aload 0, .getfield 2604, .aload 0, .getfield 2570, .arraylength, .if_icmp .lt 8, .bipush (-2), .ireturn, .aload 0, .getfield 2570, .aload 0, .getfield 2604, .aaload, .iload 1, .iload 2, .iload 3], [.aload 0, .getfield 2592, .aload 0, .getfield 2600, .invokestatic 6, .aload 0, .dup, .getfield 2604, .iconst (1), .iadd, .putfield 2604, .aload 0, .getfield 2604, .iconst (1), .isub, .ireturn]]
/-- OneIsTwo$World.addDeed(I)I -/
def pm_82 : List (List Instr) := [[.aload 0, .getfield 2612, .aload 0, .getfield 2578, .arraylength, .if_icmp .lt 8, .bipush (-2), .ireturn, .aload 0, .getfield 2578, .aload 0, .getfield 2612, .iload 1, .iastore, .aload 0, .getfield 2582], [.aload 0, .getfield 2612, .aload 0, .getfield 2592, .iastore, .aload 0, .dup, .getfield 2612, .iconst (1), .iadd, .putfield 2612, .aload 0, .getfield 2612, .iconst (1), .isub, .ireturn]]
/-- OneIsTwo$World.addWedding(II)I -/
def pm_83 : List (List Instr) := [[.aload 0, .getfield 2608, .aload 0, .getfield 2574, .arraylength, .if_icmp .lt 8, .bipush (-2), .ireturn, .aload 0, .getfield 2574, .aload 0, .getfield 2608, .aaload, .iload 1, .iload 2, .aload 0], [.getfield 2592, .aload 0, .getfield 2600, .invokestatic 62, .aload 0, .dup, .getfield 2608, .iconst (1), .iadd, .putfield 2608, .aload 0, .getfield 2608, .iconst (1), .isub, .ireturn]]
/-- OneIsTwo$World.takeLaw(LOneIsTwo$Law;)V -/
def pm_84 : List (List Instr) := [[.aload 0, .getfield 2586, .aload 1, .invokestatic 14, .iconst (0), .istore 2, .iload 2, .aload 0, .getfield 2596, .if_icmp .ge 15, .aload 0, .iload 2, .invokestatic 85, .iinc 2 (1), .goto 6, .return_]]
/-- OneIsTwo$World.settle(I)V -/
def pm_85 : List (List Instr) := [[.aload 0, .getfield 2562, .iload 1, .aaload, .astore 2, .aload 2, .getfield 1796, .invokestatic 149, .ifCond .ne 10, .return_, .aload 2, .aload 2, .getfield 1828, .ifCond .ne 26, .aload 0, .iconst (5)], [.iload 1, .aload 2, .getfield 1808, .iconst (0), .iconst (0), .invokestatic 86, .iconst (1), .if_icmp .ne 26, .iconst (1), .goto 27, .iconst (0), .putfield 1835, .aload 2, .aload 2, .getfield 1796, .iconst (5)], [.if_icmp .ne 44, .aload 0, .iconst (6), .iload 1, .aload 2, .getfield 1808, .iconst (0), .iconst (0), .invokestatic 86, .ifCond .ne 44, .iconst (1), .goto 45, .iconst (0), .putfield 1839, .return_]]
/-- OneIsTwo$World.saysOn(IIIII)I -/
def pm_86 : List (List Instr) := [[.aload 0, .getfield 2562, .iload 2, .aaload, .astore 6, .aload 0, .getfield 2590, .iconst (0), .iload 3, .iastore, .aload 0, .getfield 2590, .iconst (1), .iload 2, .iastore, .aload 0], [.getfield 2590, .iconst (2), .aload 6, .getfield 1808, .aload 6, .getfield 1812, .isub, .iastore, .aload 0, .getfield 2590, .iconst (3), .aload 6, .getfield 1796, .iastore, .aload 0, .getfield 2590], [.iconst (4), .iload 4, .iastore, .aload 0, .getfield 2590, .iconst (5), .iload 5, .iastore, .aload 0, .getfield 2586, .iload 1, .aload 0, .getfield 2590, .invokestatic 15, .ireturn]]
/-- OneIsTwo$World.saysNow(II)I -/
def pm_87 : List (List Instr) := [[.aload 0, .getfield 2590, .iconst (0), .aload 0, .getfield 2592, .iastore, .aload 0, .getfield 2590, .iconst (1), .aload 0, .getfield 2596, .iastore, .aload 0, .getfield 2590, .iconst (2), .iconst (0)], [.iastore, .aload 0, .getfield 2590, .iconst (3), .aload 0, .getfield 2562, .iload 2, .aaload, .getfield 1792, .iastore, .aload 0, .getfield 2590, .iconst (4), .iconst (0), .iastore, .aload 0], [.getfield 2590, .iconst (5), .iconst (0), .iastore, .aload 0, .getfield 2586, .iload 1, .aload 0, .getfield 2590, .invokestatic 15, .ireturn]]
/-- OneIsTwo$World.isTakingPlace(LOneIsTwo$Event;I)Z -/
def pm_88 : List (List Instr) := [[.aload 1, .getfield 512, .iconst (1), .if_icmp .eq 10, .aload 1, .getfield 512, .iconst (2), .if_icmp .eq 10, .iconst (0), .freturn, .aload 0, .getfield 2562, .aload 1, .getfield 516, .aaload, .astore 3], [.aload 3, .getfield 1836, .aload 1, .getfield 512, .iconst (2), .if_icmp .ne 24, .iconst (1), .goto 25, .iconst (0), .if_icmp .ne 35, .aload 3, .getfield 1832, .ifCond .ne 35, .aload 3, .getfield 1812, .iload 2], [.if_icmp .lt 35, .iconst (1), .goto 36, .iconst (0), .freturn]]
/-- OneIsTwo$World.rootOf(I)I -/
def pm_89 : List (List Instr) := [[.iload 1, .istore 2, .iconst (0), .istore 3, .iload 3, .aload 0, .getfield 2596, .if_icmp .ge 22, .aload 0, .getfield 2562, .iload 2, .aaload, .getfield 1800, .ifCond .lt 22, .aload 0, .getfield 2562], [.iload 2, .aaload, .getfield 1800, .istore 2, .iinc 3 (1), .goto 4, .iload 2, .ireturn]]
/-- OneIsTwo$World.forebears(I)I -/
def pm_90 : List (List Instr) := [[.iconst (1), .iload 1, .ishl, .istore 2, .iload 1, .istore 3, .iload 3, .ifCond .lt 49, .iload 2, .iload 3, .ishr, .iconst (1), .iand, .ifCond .ne 15, .goto 47, .aload 0], [.getfield 2562, .iload 3, .aaload, .getfield 1800, .ifCond .lt 31, .iload 2, .iconst (1), .aload 0, .getfield 2562, .iload 3, .aaload, .getfield 1800, .ishl, .ior, .istore 2, .aload 0], [.getfield 2562, .iload 3, .aaload, .getfield 1804, .ifCond .lt 47, .iload 2, .iconst (1), .aload 0, .getfield 2562, .iload 3, .aaload, .getfield 1804, .ishl, .ior, .istore 2, .iinc 3 (-1)], [.goto 6, .iload 2, .ireturn]]
/-- OneIsTwo.<init>()V -/
def pm_91 : List (List Instr) := [[.aload 0, .monitorenter, .aload 0, .new 655, .dup, .invokespecial 63, .putfield 2818, .aload 0, .new 655, .dup, .invokespecial 63, .putfield 2822, .aload 0, .new 655, .dup, .invokespecial 63], [.putfield 2826, .aload 0, .new 322, .dup, .aload 0, .getfield 2818, .invokespecial 33, .putfield 2830, .aload 0, .new 322, .dup, .aload 0, .getfield 2826, .invokespecial 33, .putfield 2834, .aload 0], [.new 513, .dup, .aload 0, .getfield 2818, .invokespecial 57, .putfield 2838, .aload 0, .new 387, .dup, .aload 0, .getfield 2818, .invokespecial 40, .putfield 2842, .aload 0, .iconst (200), .newarray .byte], [.putfield 2846, .aload 0, .new 263, .dup, .aload 0, .getfield 2846, .invokespecial 18, .putfield 2850, .aload 0, .new 6, .dup, .invokespecial 0, .putfield 2854, .aload 0, .iconst (12), .iconst (3)], [.multianewarray 1 2, .putfield 2858, .aload 0, .iconst (4), .iconst (40), .multianewarray 0 2, .putfield 2862, .aload 0, .iconst (4), .newarray .int, .putfield 2866, .aload 0, .iconst (4), .newarray .int, .putfield 2870, .aload 0], [.iconst (4), .newarray .int, .putfield 2874, .aload 0, .iconst (4), .newarray .int, .putfield 2878, .iconst (0), .istore 1, .iload 1, .aload 0, .getfield 2866, .arraylength, .if_icmp .ge 101, .aload 0, .getfield 2866], [.iload 1, .bipush (-1), .iastore, .iinc 1 (1), .goto 89, .iconst (0), .istore 1, .iload 1, .aload 0, .getfield 2874, .arraylength, .if_icmp .ge 115, .aload 0, .getfield 2874, .iload 1, .bipush (-1)], [.iastore, .iinc 1 (1), .goto 103, .return_]]
/-- OneIsTwo.later(I)I -/
def pm_92 : List (List Instr) := [[.iload 1, .iconst (1), .if_icmp .lt 6, .iload 1, .iconst (99), .if_icmp .le 8, .bipush (-1), .ireturn, .aload 0, .getfield 2818, .getfield 2592, .iload 1, .iadd, .iconst (999), .if_icmp .le 17, .bipush (-2)], [.ireturn, .aload 0, .getfield 2818, .dup, .getfield 2592, .iload 1, .iadd, .putfield 2592, .aload 0, .getfield 2818, .getfield 2592, .ireturn]]
/-- OneIsTwo.born()I -/
def pm_93 : List (List Instr) := [[.aload 0, .getfield 2818, .invokestatic 73, .ireturn]]
/-- OneIsTwo.copied(IIIIZ)I -/
def pm_94 : List (List Instr) := [[.aload 0, .getfield 2818, .iload 1, .invokestatic 65, .ifCond .eq 8, .iload 2, .invokestatic 149, .ifCond .ne 10, .bipush (-1), .ireturn, .iload 2, .iconst (3), .if_icmp .ne 21, .iload 3, .iconst (1), .if_icmp .lt 19], [.iload 3, .iconst (3), .if_icmp .le 21, .bipush (-1), .ireturn, .iload 4, .ifCond .lt 28, .iload 4, .aload 0, .getfield 2818, .getfield 2592, .if_icmp .le 30, .bipush (-1), .ireturn, .aload 0, .getfield 2818], [.iload 1, .invokestatic 68, .ifCond .ne 37, .bipush (-4), .ireturn, .aload 0, .getfield 2818, .iload 1, .iload 2, .iload 3, .iload 4, .iload 5, .invokestatic 74, .ireturn]]
/-- OneIsTwo.wake(I)I -/
def pm_95 : List (List Instr) := [[.aload 0, .getfield 2818, .iload 1, .invokestatic 65, .ifCond .ne 7, .bipush (-1), .ireturn, .aload 0, .getfield 2818, .getfield 2562, .iload 1, .aaload, .getfield 1792, .iconst (5), .if_icmp .eq 17, .bipush (-4)], [.ireturn, .aload 0, .getfield 2818, .iload 1, .invokestatic 76, .ireturn]]
/-- OneIsTwo.join(II)I -/
def pm_96 : List (List Instr) := [[.aload 0, .getfield 2818, .iload 1, .invokestatic 65, .ifCond .eq 13, .aload 0, .getfield 2818, .iload 2, .invokestatic 65, .ifCond .eq 13, .iload 1, .iload 2, .if_icmp .ne 15, .bipush (-1), .ireturn, .aload 0], [.getfield 2818, .iload 1, .invokestatic 68, .ifCond .eq 25, .aload 0, .getfield 2818, .iload 2, .invokestatic 68, .ifCond .ne 27, .bipush (-4), .ireturn, .aload 0, .getfield 2818, .iload 1, .iload 2, .invokestatic 75], [.ireturn]]
/-- OneIsTwo.end(I)I -/
def pm_97 : List (List Instr) := [[.aload 0, .getfield 2818, .iload 1, .invokestatic 65, .ifCond .ne 7, .bipush (-1), .ireturn, .aload 0, .getfield 2818, .iload 1, .invokestatic 69, .ifCond .eq 14, .bipush (-4), .ireturn, .aload 0, .getfield 2818], [.iload 1, .invokestatic 77, .ireturn]]
/-- OneIsTwo.person(II)I -/
def pm_98 : List (List Instr) := [[.aload 0, .getfield 2818, .iload 1, .invokestatic 65, .ifCond .ne 7, .bipush (-1), .ireturn, .aload 0, .getfield 2818, .getfield 2562, .iload 1, .aaload, .astore 3, .iload 2, .tableswitch 48 0 8 #[15, 18, 21, 24, 27, 30, 33, 36, 43], .aload 3], [.getfield 1792, .ireturn, .aload 3, .getfield 1800, .ireturn, .aload 3, .getfield 1804, .ireturn, .aload 3, .getfield 1808, .ireturn, .aload 3, .getfield 1812, .ireturn, .aload 3, .getfield 1816], [.ireturn, .aload 3, .getfield 1820, .ireturn, .aload 3, .getfield 1832, .ifCond .eq 41, .iconst (1), .goto 42, .iconst (0), .ireturn, .aload 0, .getfield 2818, .iload 1, .invokestatic 89, .ireturn], [.bipush (-1), .ireturn]]
/-- OneIsTwo.kin(I)I -/
def pm_99 : List (List Instr) := [[.aload 0, .getfield 2818, .iload 1, .invokestatic 65, .ifCond .ne 7, .bipush (-1), .ireturn, .iconst (0), .istore 2, .iload 1, .istore 3, .iload 3, .aload 0, .getfield 2818, .getfield 2596, .if_icmp .ge 33], [.aload 0, .getfield 2818, .iload 3, .invokestatic 90, .iload 1, .ishr, .iconst (1), .iand, .ifCond .eq 31, .iload 2, .iconst (1), .iload 3, .ishl, .ior, .istore 2, .iinc 3 (1)], [.goto 11, .iload 2, .ireturn]]
/-- OneIsTwo.common(II)I -/
def pm_100 : List (List Instr) := [[.aload 0, .getfield 2818, .iload 1, .invokestatic 65, .ifCond .eq 10, .aload 0, .getfield 2818, .iload 2, .invokestatic 65, .ifCond .ne 12, .bipush (-1), .ireturn, .aload 0, .getfield 2818, .iload 1, .invokestatic 90], [.aload 0, .getfield 2818, .iload 2, .invokestatic 90, .iand, .istore 3, .aload 0, .getfield 2818, .getfield 2596, .iconst (1), .isub, .istore 4, .iload 4, .ifCond .lt 40, .iload 3, .iload 4], [.ishr, .iconst (1), .iand, .ifCond .eq 38, .iload 4, .ireturn, .iinc 4 (-1), .goto 28, .bipush (-9), .ireturn]]
/-- OneIsTwo.feed(JI)I -/
def pm_101 : List (List Instr) := [[.iload 3, .iconst (1), .if_icmp .lt 6, .iload 3, .iconst (8), .if_icmp .le 8, .bipush (-1), .ireturn, .aload 0, .getfield 2884, .iload 3, .iadd, .aload 0, .getfield 2846, .arraylength, .if_icmp .le 18], [.bipush (-2), .ireturn, .iconst (0), .istore 4, .iload 4, .iload 3, .if_icmp .ge 39, .aload 0, .getfield 2846, .aload 0, .getfield 2884, .iload 4, .iadd, .lload 1, .iconst (8), .iload 4], [.imul, .lushr, .l2i, .i2b, .bastore, .iinc 4 (1), .goto 20, .aload 0, .dup, .getfield 2884, .iload 3, .iadd, .putfield 2884, .aload 0, .getfield 2884, .ireturn]]
/-- OneIsTwo.law()I -/
def pm_102 : List (List Instr) := [[.aload 0, .getfield 2850, .aload 0, .getfield 2884, .invokestatic 19, .aload 0, .iconst (0), .putfield 2884, .iconst (0), .istore 1, .iload 1, .iconst (10), .if_icmp .gt 29, .aload 0, .getfield 2850, .invokestatic 20], [.ifCond .ne 29, .aload 0, .getfield 2850, .invokestatic 21, .ifCond .ne 27, .bipush (-100), .aload 0, .getfield 2850, .getfield 1036, .isub, .ireturn, .iinc 1 (1), .goto 10, .aload 0, .getfield 2818, .aload 0], [.getfield 2850, .getfield 1026, .invokestatic 84, .aload 0, .getfield 2818, .getfield 2586, .getfield 784, .ireturn]]
/-- OneIsTwo.says(II)I -/
def pm_103 : List (List Instr) := [[.iload 1, .ifCond .lt 10, .iload 1, .iconst (6), .if_icmp .gt 10, .aload 0, .getfield 2818, .iload 2, .invokestatic 65, .ifCond .ne 12, .bipush (-1), .ireturn, .aload 0, .getfield 2818, .iload 1, .iload 2], [.invokestatic 87, .ireturn]]
/-- OneIsTwo.claim(III)I -/
def pm_104 : List (List Instr) := [[.iload 1, .invokestatic 148, .ifCond .eq 14, .aload 0, .getfield 2818, .iload 2, .invokestatic 65, .ifCond .eq 14, .iload 3, .iconst (1), .if_icmp .lt 14, .iload 3, .iconst (9999), .if_icmp .le 16, .bipush (-1), .ireturn], [.aload 0, .getfield 2818, .iload 2, .invokestatic 68, .ifCond .ne 23, .bipush (-4), .ireturn, .aload 0, .getfield 2818, .iload 1, .iload 2, .iload 3, .invokestatic 81, .ireturn]]
/-- OneIsTwo.claimOf(II)I -/
def pm_105 : List (List Instr) := [[.aload 0, .getfield 2818, .iload 1, .invokestatic 66, .ifCond .ne 7, .bipush (-1), .ireturn, .aload 0, .getfield 2818, .getfield 2570, .iload 1, .aaload, .astore 3, .iload 2, .tableswitch 27 0 3 #[15, 18, 21, 24], .aload 3], [.getfield 256, .ireturn, .aload 3, .getfield 260, .ireturn, .aload 3, .getfield 264, .ireturn, .aload 3, .getfield 268, .ireturn, .bipush (-1), .ireturn]]
/-- OneIsTwo.share(III)J -/
def pm_106 : List (List Instr) := [[.aload 0, .getfield 2818, .iload 1, .invokestatic 65, .ifCond .eq 13, .aload 0, .getfield 2818, .iload 2, .invokestatic 66, .ifCond .eq 13, .iload 3, .invokestatic 147, .ifCond .ne 15, .jsr_w (-1), .lreturn, .aload 0], [.getfield 2830, .iload 2, .invokestatic 37, .aload 0, .getfield 2830, .getfield 1286, .iload 1, .laload, .iload 3, .invokestatic 34, .lreturn]]
/-- OneIsTwo.total(III)J -/
def pm_107 : List (List Instr) := [[.aload 0, .getfield 2818, .iload 1, .invokestatic 65, .ifCond .eq 11, .iload 2, .invokestatic 148, .ifCond .eq 11, .iload 3, .invokestatic 147, .ifCond .ne 13, .jsr_w (-1), .lreturn, .aload 0, .getfield 2830, .iload 1], [.iload 2, .invokestatic 35, .iload 3, .invokestatic 34, .lreturn]]
/-- OneIsTwo.deed(I)I -/
def pm_108 : List (List Instr) := [[.aload 0, .getfield 2818, .iload 1, .invokestatic 65, .ifCond .ne 7, .bipush (-1), .ireturn, .aload 0, .getfield 2818, .iload 1, .invokestatic 68, .ifCond .ne 14, .bipush (-4), .ireturn, .aload 0, .getfield 2818], [.iload 1, .invokestatic 82, .ireturn]]
/-- OneIsTwo.remembers(II)I -/
def pm_109 : List (List Instr) := [[.aload 0, .getfield 2818, .iload 1, .invokestatic 65, .ifCond .eq 10, .aload 0, .getfield 2818, .iload 2, .invokestatic 67, .ifCond .ne 12, .bipush (-1), .ireturn, .aload 0, .getfield 2842, .invokestatic 41, .aload 0], [.getfield 2842, .getfield 1542, .iload 1, .iaload, .iload 2, .ishr, .iconst (1), .iand, .ireturn]]
/-- OneIsTwo.blame(I)I -/
def pm_110 : List (List Instr) := [[.aload 0, .getfield 2818, .iload 1, .invokestatic 67, .ifCond .ne 7, .bipush (-1), .ireturn, .aload 0, .getfield 2842, .iload 1, .invokestatic 47, .ireturn]]
/-- OneIsTwo.wed(II)I -/
def pm_111 : List (List Instr) := [[.aload 0, .getfield 2818, .iload 1, .invokestatic 65, .ifCond .eq 13, .aload 0, .getfield 2818, .iload 2, .invokestatic 65, .ifCond .eq 13, .iload 1, .iload 2, .if_icmp .ne 15, .bipush (-1), .ireturn, .aload 0], [.getfield 2818, .iload 1, .invokestatic 68, .ifCond .eq 25, .aload 0, .getfield 2818, .iload 2, .invokestatic 68, .ifCond .ne 27, .bipush (-4), .ireturn, .aload 0, .getfield 2838, .iload 1, .invokestatic 58, .iload 2], [.ishr, .iconst (1), .iand, .ifCond .eq 38, .bipush (-4), .ireturn, .aload 0, .getfield 2818, .iload 1, .iload 2, .invokestatic 83, .ireturn]]
/-- OneIsTwo.wedTo(I)I -/
def pm_112 : List (List Instr) := [[.aload 0, .getfield 2818, .iload 1, .invokestatic 65, .ifCond .ne 7, .bipush (-1), .ireturn, .aload 0, .getfield 2838, .iload 1, .invokestatic 58, .ireturn]]
/-- OneIsTwo.votes(II)I -/
def pm_113 : List (List Instr) := [[.aload 0, .getfield 2818, .iload 1, .invokestatic 65, .ifCond .eq 8, .iload 2, .invokestatic 147, .ifCond .ne 10, .bipush (-1), .ireturn, .aload 0, .getfield 2842, .iload 1, .invokestatic 52, .istore 3, .iload 2], [.ifCond .ne 23, .iload 3, .ifCond .ne 21, .iconst (0), .goto 22, .iconst (1), .ireturn, .iload 3, .ifCond .ne 27, .iconst (1), .goto 28, .iload 3, .ireturn]]
/-- OneIsTwo.rooted(I)I -/
def pm_114 : List (List Instr) := [[.aload 0, .getfield 2818, .iload 1, .invokestatic 65, .ifCond .ne 7, .bipush (-1), .ireturn, .aload 0, .getfield 2818, .getfield 2562, .iload 1, .aaload, .getfield 1796, .iconst (1), .if_icmp .eq 17, .bipush (-3)], [.ireturn, .aload 0, .getfield 2842, .iload 1, .invokestatic 53, .ireturn]]
/-- OneIsTwo.apart(II)I -/
def pm_115 : List (List Instr) := [[.aload 0, .getfield 2818, .iload 1, .invokestatic 65, .ifCond .eq 10, .aload 0, .getfield 2818, .iload 2, .invokestatic 65, .ifCond .ne 12, .bipush (-1), .ireturn, .aload 0, .getfield 2842, .iload 1, .iload 2], [.invokestatic 43, .ireturn]]
/-- OneIsTwo.fewest(I)I -/
def pm_116 : List (List Instr) := [[.iload 1, .ifCond .lt 5, .iload 1, .iconst (1), .if_icmp .le 7, .bipush (-1), .ireturn, .aload 0, .getfield 2842, .invokestatic 44, .istore 2, .iload 1, .ifCond .ne 16, .iload 2, .invokestatic 271, .goto 17], [.iload 2, .ireturn]]
/-- OneIsTwo.pays(II)J -/
def pm_117 : List (List Instr) := [[.aload 0, .getfield 2818, .iload 1, .invokestatic 65, .ifCond .eq 10, .iload 2, .ifCond .lt 10, .iload 2, .iconst (1), .if_icmp .le 12, .jsr_w (-1), .lreturn, .aload 0, .getfield 2818, .iload 1, .invokestatic 68], [.ifCond .ne 19, .jsr_w (-4), .lreturn, .iconst (0), .istore 3, .aload 0, .getfield 2830, .iload 1, .iconst (0), .invokestatic 35, .goto_w (4194304), .ldiv, .lstore 4, .iconst (1), .istore 6, .iload 6], [.iconst (4), .aload 0, .getfield 2818, .getfield 2596, .iadd, .if_icmp .ge 69, .lload 4, .goto_w (0), .lcmp, .ifCond .le 69, .aload 0, .iload 1, .iload 6, .invokestatic 118, .istore 7, .iload 7], [.ifCond .ge 51, .lload 4, .goto 58, .aload 0, .getfield 2834, .iload 7, .iconst (0), .invokestatic 35, .goto_w (4194304), .ldiv, .lstore 8, .lload 8, .lload 4, .lcmp, .ifCond .ge 67, .iload 6], [.istore 3, .lload 8, .lstore 4, .iinc 6 (1), .goto 31, .iload 2, .ifCond .ne 74, .iload 3, .i2l, .goto 75, .lload 4, .lreturn]]
/-- OneIsTwo.tryChoice(II)I -/
def pm_118 : List (List Instr) := [[.aload 0, .getfield 2826, .aload 0, .getfield 2818, .invokestatic 64, .iload 2, .iconst (1), .if_icmp .ne 23, .aload 0, .getfield 2826, .iload 1, .iconst (2), .iconst (0), .aload 0, .getfield 2826, .getfield 2592], [.iconst (1), .invokestatic 74, .ifCond .ge 21, .bipush (-2), .goto 22, .iload 1, .ireturn, .iload 2, .iconst (2), .if_icmp .ne 41, .aload 0, .getfield 2826, .iload 1, .iconst (3), .iconst (1), .aload 0], [.getfield 2826, .getfield 2592, .iconst (1), .invokestatic 74, .ifCond .ge 39, .bipush (-2), .goto 40, .iload 1, .ireturn, .iload 2, .iconst (3), .if_icmp .ne 53, .aload 0, .getfield 2826, .iload 1, .invokestatic 77], [.ifCond .ge 51, .bipush (-2), .goto 52, .iload 1, .ireturn, .iload 2, .iconst (4), .isub, .istore 3, .iload 3, .iload 1, .if_icmp .eq 70, .aload 0, .getfield 2826, .iload 3, .invokestatic 65], [.ifCond .eq 70, .aload 0, .getfield 2826, .iload 3, .invokestatic 68, .ifCond .ne 72, .bipush (-4), .ireturn, .aload 0, .getfield 2826, .iload 1, .iload 3, .invokestatic 75, .ireturn]]
/-- OneIsTwo.lender(III)J -/
def pm_119 : List (List Instr) := [[.aload 0, .getfield 2818, .iload 1, .invokestatic 65, .ifCond .eq 13, .iload 2, .ifCond .lt 13, .iload 2, .iconst (4), .if_icmp .gt 13, .iload 3, .invokestatic 147, .ifCond .ne 15, .jsr_w (-1), .lreturn, .aload 0], [.getfield 2818, .iload 1, .invokestatic 68, .ifCond .ne 22, .jsr_w (-4), .lreturn, .aload 0, .getfield 2826, .aload 0, .getfield 2818, .invokestatic 64, .aload 0, .getfield 2826, .iconst (0), .iload 1, .iconst (1)], [.invokestatic 81, .istore 4, .iload 4, .ifCond .ge 38, .jsr_w (-2), .lreturn, .iconst (0), .istore 5, .iload 5, .iload 2, .if_icmp .ge 58, .aload 0, .getfield 2826, .iload 1, .iconst (2), .iconst (0)], [.aload 0, .getfield 2826, .getfield 2592, .iconst (1), .invokestatic 74, .ifCond .ge 56, .jsr_w (-2), .lreturn, .iinc 5 (1), .goto 40, .aload 0, .getfield 2834, .iload 4, .invokestatic 37, .goto_w (0), .lstore 5], [.iconst (0), .istore 7, .iload 7, .aload 0, .getfield 2826, .getfield 2596, .if_icmp .ge 81, .lload 5, .aload 0, .getfield 2834, .getfield 1286, .iload 7, .laload, .i2f, .lstore 5, .iinc 7 (1)], [.goto 66, .lload 5, .iload 3, .invokestatic 34, .lreturn]]
/-- OneIsTwo.seed(I)I -/
def pm_120 : List (List Instr) := [[.aload 0, .getfield 2818, .getfield 2616, .istore 2, .aload 0, .getfield 2818, .iload 1, .putfield 2616, .iload 2, .ireturn]]
/-- OneIsTwo.call()I -/
def pm_121 : List (List Instr) := [[.aload 0, .getfield 2818, .invokestatic 70, .istore 1, .iload 1, .ifCond .ne 8, .bipush (-3), .ireturn, .aload 0, .getfield 2818, .aload 0, .getfield 2818, .getfield 2616, .iconst (1103515245), .imul, .iconst (12345)], [.iadd, .putfield 2616, .aload 0, .getfield 2818, .getfield 2616, .iconst (16), .iushr, .iload 1, .irem, .istore 2, .iconst (0), .istore 3, .iload 3, .aload 0, .getfield 2818, .getfield 2596], [.if_icmp .ge 46, .aload 0, .getfield 2818, .iload 3, .invokestatic 68, .ifCond .ne 39, .goto 44, .iload 2, .ifCond .ne 43, .iload 3, .ireturn, .iinc 2 (-1), .iinc 3 (1), .goto 28, .bipush (-3), .ireturn]]
/-- OneIsTwo.prove(I)I -/
def pm_122 : List (List Instr) := [[.aload 0, .getfield 2818, .iload 1, .invokestatic 66, .ifCond .ne 7, .bipush (-1), .ireturn, .aload 0, .getfield 2830, .iload 1, .invokestatic 37, .aload 0, .iconst (0), .putfield 2888, .iconst (0), .istore 2], [.iload 2, .aload 0, .getfield 2818, .getfield 2596, .if_icmp .ge 75, .aload 0, .getfield 2830, .getfield 1286, .iload 2, .laload, .goto_w (0), .lcmp, .ifCond .ne 30, .goto 73, .aload 0, .getfield 2858], [.aload 0, .getfield 2888, .aaload, .iconst (0), .iload 2, .i2l, .lastore, .aload 0, .getfield 2858, .aload 0, .getfield 2888, .aaload, .iconst (1), .aload 0, .getfield 2830, .getfield 1286], [.iload 2, .laload, .iconst (0), .invokestatic 34, .lastore, .aload 0, .getfield 2858, .aload 0, .getfield 2888, .aaload, .iconst (2), .aload 0, .getfield 2830, .getfield 1286, .iload 2, .laload], [.iconst (1), .invokestatic 34, .lastore, .aload 0, .dup, .getfield 2888, .iconst (1), .iadd, .putfield 2888, .iinc 2 (1), .goto 16, .aload 0, .getfield 2888, .ireturn]]
/-- OneIsTwo.row(II)J -/
def pm_123 : List (List Instr) := [[.aload 0, .iload 1, .iload 2, .invokestatic 126, .ifCond .ne 7, .jsr_w (-9), .lreturn, .aload 0, .getfield 2858, .iload 1, .aaload, .iload 2, .laload, .lreturn]]
/-- OneIsTwo.alterRow(IIJ)J -/
def pm_124 : List (List Instr) := [[.aload 0, .iload 1, .iload 2, .invokestatic 126, .ifCond .ne 7, .jsr_w (-9), .lreturn, .aload 0, .getfield 2858, .iload 1, .aaload, .iload 2, .laload, .lstore 5, .aload 0, .getfield 2858], [.iload 1, .aaload, .iload 2, .lload 3, .lastore, .lload 5, .lreturn]]
/-- OneIsTwo.judge(I)I -/
def pm_125 : List (List Instr) := [[.aload 0, .getfield 2818, .iload 1, .invokestatic 66, .ifCond .ne 7, .bipush (-1), .ireturn, .aload 0, .getfield 2830, .iload 1, .invokestatic 37, .aload 0, .getfield 2830, .iconst (0), .invokestatic 36, .istore 2], [.iconst (0), .istore 3, .iload 3, .aload 0, .getfield 2888, .if_icmp .ge 40, .aload 0, .iload 3, .iload 2, .invokestatic 127, .ifCond .ne 31, .iload 3, .iconst (1), .iadd, .ireturn, .aload 0], [.getfield 2830, .iload 2, .iconst (1), .iadd, .invokestatic 36, .istore 2, .iinc 3 (1), .goto 18, .iload 2, .bipush (-9), .if_icmp .ne 45, .iconst (0), .goto 46, .iconst (222), .ireturn]]
/-- OneIsTwo.isRowPlace(II)Z -/
def pm_126 : List (List Instr) := [[.iload 1, .ifCond .lt 13, .iload 1, .aload 0, .getfield 2888, .if_icmp .ge 13, .iload 2, .ifCond .lt 13, .iload 2, .iconst (2), .if_icmp .gt 13, .iconst (1), .goto 14, .iconst (0), .freturn]]
/-- OneIsTwo.isRightRow(II)Z -/
def pm_127 : List (List Instr) := [[.iload 2, .bipush (-9), .if_icmp .eq 13, .aload 0, .getfield 2858, .iload 1, .aaload, .iconst (0), .laload, .iload 2, .i2l, .lcmp, .ifCond .eq 15, .iconst (0), .freturn, .aload 0], [.getfield 2858, .iload 1, .aaload, .iconst (1), .laload, .aload 0, .getfield 2830, .getfield 1286, .iload 2, .laload, .iconst (0), .invokestatic 34, .lcmp, .ifCond .ne 47, .aload 0, .getfield 2858], [.iload 1, .aaload, .iconst (2), .laload, .aload 0, .getfield 2830, .getfield 1286, .iload 2, .laload, .iconst (1), .invokestatic 34, .lcmp, .ifCond .ne 47, .iconst (1), .goto 48, .iconst (0)], [.freturn]]
/-- OneIsTwo.sheet(III)I -/
def pm_128 : List (List Instr) := [[.iload 1, .invokestatic 145, .ifCond .eq 9, .iload 2, .bipush (-1), .if_icmp .lt 9, .iload 2, .iconst (4), .if_icmp .le 11, .bipush (-1), .ireturn, .iload 2, .bipush (-1), .if_icmp .eq 46, .iload 3, .aload 0], [.getfield 2862, .iload 1, .aaload, .arraylength, .if_icmp .le 23, .bipush (-1), .ireturn, .iload 3, .ifCond .ge 27, .bipush (-14), .ireturn, .aload 0, .getfield 2870, .iload 1, .iload 3, .iastore], [.iconst (0), .istore 4, .iload 4, .iload 3, .if_icmp .ge 46, .aload 0, .getfield 2862, .iload 1, .aaload, .iload 4, .iconst (0), .iastore, .iinc 4 (1), .goto 34, .aload 0, .getfield 2866], [.iload 1, .iload 2, .iastore, .iconst (1), .ireturn]]
/-- OneIsTwo.put(III)I -/
def pm_129 : List (List Instr) := [[.iload 1, .invokestatic 145, .ifCond .ne 5, .bipush (-1), .ireturn, .aload 0, .getfield 2866, .iload 1, .iaload, .bipush (-1), .if_icmp .ne 13, .bipush (-11), .ireturn, .iload 2, .ifCond .lt 21, .iload 2], [.aload 0, .getfield 2870, .iload 1, .iaload, .if_icmp .lt 23, .bipush (-12), .ireturn, .aload 0, .getfield 2862, .iload 1, .aaload, .iload 2, .aload 0, .getfield 2866, .iload 1, .iaload], [.iload 3, .invokestatic 144, .iastore, .iconst (1), .ireturn]]
/-- OneIsTwo.item(III)I -/
def pm_130 : List (List Instr) := [[.iload 1, .invokestatic 145, .ifCond .eq 8, .iload 2, .ifCond .lt 8, .iload 2, .iconst (4), .if_icmp .le 10, .bipush (-1), .ireturn, .aload 0, .getfield 2866, .iload 1, .iaload, .bipush (-1), .if_icmp .ne 18], [.bipush (-11), .ireturn, .aload 0, .getfield 2866, .iload 1, .iaload, .iload 2, .if_icmp .eq 26, .bipush (-13), .ireturn, .iload 3, .ifCond .lt 34, .iload 3, .aload 0, .getfield 2870, .iload 1], [.iaload, .if_icmp .lt 36, .bipush (-12), .ireturn, .aload 0, .getfield 2862, .iload 1, .aaload, .iload 3, .iaload, .ireturn]]
/-- OneIsTwo.debts(IIII)I -/
def pm_131 : List (List Instr) := [[.aload 0, .getfield 2818, .iload 1, .invokestatic 65, .ifCond .eq 13, .iload 2, .invokestatic 145, .ifCond .eq 13, .iload 4, .ifCond .lt 13, .iload 4, .iconst (12), .if_icmp .le 15, .bipush (-1), .ireturn, .aload 0], [.getfield 2866, .iload 2, .iaload, .bipush (-1), .if_icmp .ne 23, .bipush (-11), .ireturn, .aload 0, .getfield 2866, .iload 2, .iaload, .iconst (1), .if_icmp .eq 31, .bipush (-13), .ireturn, .iconst (0)], [.istore 5, .iconst (0), .istore 6, .iload 6, .iload 4, .if_icmp .ge 66, .iload 3, .ifCond .lt 48, .iload 3, .aload 0, .getfield 2870, .iload 2, .iaload, .iload 6, .isub, .if_icmp .lt 50], [.bipush (-12), .ireturn, .aload 0, .iconst (0), .iload 1, .aload 0, .getfield 2862, .iload 2, .aaload, .iload 3, .iload 6, .iadd, .iaload, .invokestatic 104, .ifCond .lt 64, .iinc 5 (1)], [.iinc 6 (1), .goto 35, .iload 5, .ireturn]]
/-- OneIsTwo.shelf(III)I -/
def pm_132 : List (List Instr) := [[.iload 1, .invokestatic 146, .ifCond .ne 5, .bipush (-1), .ireturn, .iload 2, .tableswitch 49 0 3 #[7, 20, 33, 43], .aload 0, .getfield 2818, .iload 3, .invokestatic 65, .ifCond .eq 18, .aload 0, .iload 1, .iconst (0), .iload 3], [.invokestatic 139, .goto 19, .bipush (-1), .ireturn, .aload 0, .getfield 2818, .iload 3, .invokestatic 66, .ifCond .eq 31, .aload 0, .iload 1, .iconst (1), .iload 3, .invokestatic 139, .goto 32, .bipush (-1)], [.ireturn, .iload 3, .invokestatic 145, .ifCond .eq 41, .aload 0, .iload 1, .iload 3, .invokestatic 140, .goto 42, .bipush (-1), .ireturn, .aload 0, .iload 1, .bipush (-1), .iconst (0), .invokestatic 139], [.ireturn, .bipush (-1), .ireturn]]
/-- OneIsTwo.taken(II)I -/
def pm_133 : List (List Instr) := [[.iload 1, .invokestatic 146, .ifCond .eq 14, .iload 2, .ifCond .lt 14, .iload 2, .iconst (7), .if_icmp .le 11, .iload 2, .iconst (10), .if_icmp .lt 14, .iload 2, .iconst (14), .if_icmp .le 16, .bipush (-1), .ireturn], [.aload 0, .iload 1, .invokestatic 141, .istore 3, .iload 3, .bipush (-1), .if_icmp .ne 25, .bipush (-11), .ireturn, .iload 3, .iconst (10), .if_icmp .lt 35, .iload 3, .iload 2, .if_icmp .ne 33, .iconst (1)], [.goto 47, .iconst (0), .goto 47, .iload 2, .iconst (10), .if_icmp .ge 46, .aload 0, .iload 1, .invokestatic 142, .iload 2, .invokestatic 143, .ifCond .eq 46, .iconst (1), .goto 47, .iconst (0), .istore 4], [.iload 4, .ifCond .eq 55, .aload 0, .getfield 2878, .iload 1, .iaload, .goto 56, .bipush (-13), .ireturn]]
/-- OneIsTwo.act(III)I -/
def pm_134 : List (List Instr) := [[.aload 0, .getfield 2854, .invokestatic 1, .iload 1, .invokestatic 146, .ifCond .eq 11, .iload 2, .ifCond .lt 11, .iload 2, .iconst (3), .if_icmp .le 13, .iconst (0), .ireturn, .aload 0, .iload 1, .invokestatic 141], [.istore 4, .iload 4, .bipush (-1), .if_icmp .eq 23, .iload 4, .iconst (10), .if_icmp .lt 25, .iconst (0), .ireturn, .aload 0, .getfield 2878, .iload 1, .iaload, .istore 5, .iload 4, .ifCond .ne 39], [.aload 0, .getfield 2818, .getfield 2562, .iload 5, .aaload, .getfield 1808, .goto 45, .aload 0, .getfield 2818, .getfield 2570, .iload 5, .aaload, .getfield 264, .istore 6, .aload 0, .getfield 2854], [.aload 0, .iload 1, .invokestatic 142, .iload 5, .iload 6, .iload 2, .iload 3, .invokestatic 2, .ireturn]]
/-- OneIsTwo.trace(I)I -/
def pm_135 : List (List Instr) := [[.iload 1, .ifCond .lt 7, .iload 1, .aload 0, .getfield 2854, .getfield 4, .if_icmp .lt 9, .bipush (-3), .ireturn, .aload 0, .getfield 2854, .getfield 2, .iload 1, .iaload, .ireturn]]
/-- OneIsTwo.many(I)I -/
def pm_136 : List (List Instr) := [[.iload 1, .tableswitch 45 0 10 #[2, 6, 10, 14, 18, 22, 26, 31, 34, 37, 41], .aload 0, .getfield 2818, .getfield 2596, .ireturn, .aload 0, .getfield 2818, .invokestatic 70, .ireturn, .aload 0, .getfield 2818, .getfield 2600, .ireturn, .aload 0, .getfield 2818], [.getfield 2604, .ireturn, .aload 0, .getfield 2818, .getfield 2612, .ireturn, .aload 0, .getfield 2818, .getfield 2608, .ireturn, .aload 0, .getfield 2818, .getfield 2586, .getfield 784, .ireturn, .aload 0], [.getfield 2888, .ireturn, .aload 0, .getfield 2884, .ireturn, .aload 0, .getfield 2854, .getfield 4, .ireturn, .aload 0, .getfield 2818, .getfield 2592, .ireturn, .bipush (-1), .ireturn]]
/-- OneIsTwo.keep()I -/
def pm_137 : List (List Instr) := [[.aload 0, .getfield 2822, .aload 0, .getfield 2818, .invokestatic 64, .aload 0, .iconst (1), .putfield 2883, .iconst (1), .ireturn]]
/-- OneIsTwo.again()I -/
def pm_138 : List (List Instr) := [[.aload 0, .getfield 2880, .ifCond .ne 5, .bipush (-3), .ireturn, .aload 0, .getfield 2818, .aload 0, .getfield 2822, .invokestatic 64, .iconst (1), .ireturn]]
/-- OneIsTwo.lay(III)I -/
def pm_139 : List (List Instr) := [[.aload 0, .getfield 2874, .iload 1, .iload 2, .iastore, .aload 0, .getfield 2878, .iload 1, .iload 3, .iastore, .iconst (1), .ireturn]]
/-- OneIsTwo.layRow(II)I -/
def pm_140 : List (List Instr) := [[.aload 0, .getfield 2866, .iload 2, .iaload, .bipush (-1), .if_icmp .ne 12, .aload 0, .iload 1, .bipush (-1), .iconst (0), .invokestatic 139, .ireturn, .aload 0, .iload 1, .iconst (10), .aload 0], [.getfield 2866, .iload 2, .iaload, .iadd, .aload 0, .getfield 2870, .iload 2, .iaload, .invokestatic 139, .ireturn]]
/-- OneIsTwo.heldOn(I)I -/
def pm_141 : List (List Instr) := [[.aload 0, .getfield 2874, .iload 1, .iaload, .istore 2, .iload 2, .ifCond .ne 17, .aload 0, .getfield 2818, .aload 0, .getfield 2878, .iload 1, .iaload, .invokestatic 65, .ifCond .ne 17, .bipush (-1)], [.ireturn, .iload 2, .iconst (1), .if_icmp .ne 30, .aload 0, .getfield 2818, .aload 0, .getfield 2878, .iload 1, .iaload, .invokestatic 66, .ifCond .ne 30, .bipush (-1), .ireturn, .iload 2, .ireturn]]
/-- OneIsTwo.kindOn(I)I -/
def pm_142 : List (List Instr) := [[.aload 0, .getfield 2874, .iload 1, .iaload, .ifCond .ne 15, .aload 0, .getfield 2818, .getfield 2562, .aload 0, .getfield 2878, .iload 1, .iaload, .aaload, .getfield 1792, .goto 16, .iconst (7)], [.ireturn]]
/-- OneIsTwo.isUnder(II)Z -/
def pm_143 : List (List Instr) := [[.iload 0, .iload 1, .if_icmp .ne 5, .iconst (1), .freturn, .iload 1, .ifCond .ne 14, .iload 0, .iconst (7), .if_icmp .eq 12, .iconst (1), .goto 26, .iconst (0), .goto 26, .iload 1, .iconst (2)], [.if_icmp .ne 25, .iload 0, .iconst (3), .if_icmp .eq 23, .iload 0, .iconst (5), .if_icmp .ne 25, .iconst (1), .goto 26, .iconst (0), .freturn]]
/-- OneIsTwo.narrowed(II)I -/
def pm_144 : List (List Instr) := [[.iload 0, .tableswitch 14 0 4 #[2, 5, 14, 14, 8], .iload 1, .i2b, .ireturn, .iload 1, .i2s, .ireturn, .iload 1, .ifCond .eq 12, .iconst (1), .goto 13, .iconst (0), .ireturn, .iload 1, .ireturn]]
/-- OneIsTwo.isSheet(I)Z -/
def pm_145 : List (List Instr) := [[.iload 0, .ifCond .lt 7, .iload 0, .iconst (4), .if_icmp .ge 7, .iconst (1), .goto 8, .iconst (0), .freturn]]
/-- OneIsTwo.isShelf(I)Z -/
def pm_146 : List (List Instr) := [[.iload 0, .ifCond .lt 7, .iload 0, .iconst (4), .if_icmp .ge 7, .iconst (1), .goto 8, .iconst (0), .freturn]]
/-- OneIsTwo.isPart(I)Z -/
def pm_147 : List (List Instr) := [[.iload 0, .ifCond .eq 5, .iload 0, .iconst (1), .if_icmp .ne 7, .iconst (1), .goto 8, .iconst (0), .freturn]]
/-- OneIsTwo.isClaimSort(I)Z -/
def pm_148 : List (List Instr) := [[.iload 0, .ifCond .eq 5, .iload 0, .iconst (1), .if_icmp .ne 7, .iconst (1), .goto 8, .iconst (0), .freturn]]
/-- OneIsTwo.isCopyKind(I)Z -/
def pm_149 : List (List Instr) := [[.iload 0, .iconst (2), .if_icmp .eq 9, .iload 0, .iconst (3), .if_icmp .eq 9, .iload 0, .iconst (5), .if_icmp .ne 11, .iconst (1), .goto 12, .iconst (0), .freturn]]
/-- OneIsTwoModel.<init>()V -/
def pm_150 : List (List Instr) := [[.aload 0, .monitorenter, .aload 0, .iconst (546), .newarray .int, .putfield 3074, .aload 0, .iconst (546), .newarray .int, .putfield 3078, .aload 0, .iconst (546), .newarray .int, .putfield 3082, .aload 0, .iconst (200)], [.newarray .int, .putfield 3090, .aload 0, .iconst (200), .newarray .int, .putfield 3094, .aload 0, .iconst (50), .newarray .int, .putfield 3098, .aload 0, .iconst (6), .newarray .int, .putfield 3130, .aload 0, .iconst (200)], [.newarray .int, .putfield 3134, .aload 0, .iconst (12), .newarray .int, .putfield 3138, .aload 0, .iconst (12), .newarray .long, .putfield 3142, .aload 0, .iconst (12), .newarray .int, .putfield 3146, .aload 0, .iconst (36)], [.newarray .long, .putfield 3166, .aload 0, .iconst (4), .newarray .int, .dup, .iconst (0), .bipush (-1), .iastore, .dup, .iconst (1), .bipush (-1), .iastore, .dup, .iconst (2), .bipush (-1)], [.iastore, .dup, .iconst (3), .bipush (-1), .iastore, .putfield 3174, .aload 0, .iconst (4), .newarray .int, .putfield 3178, .aload 0, .iconst (160), .newarray .int, .putfield 3182, .aload 0, .iconst (4)], [.newarray .int, .dup, .iconst (0), .iconst (3), .iastore, .dup, .iconst (1), .iconst (3), .iastore, .dup, .iconst (2), .iconst (3), .iastore, .dup, .iconst (3), .iconst (3)], [.iastore, .putfield 3186, .aload 0, .iconst (4), .newarray .int, .putfield 3190, .aload 0, .iconst (4), .newarray .int, .putfield 3194, .aload 0, .iconst (30), .newarray .int, .putfield 3210, .aload 0, .getfield 3074], [.iconst (7), .iconst (1), .iastore, .return_]]
/-- OneIsTwoModel.in(JJJ)Z -/
def pm_151 : List (List Instr) := [[.lload 0, .lload 2, .lcmp, .ifCond .lt 10, .lload 0, .lload 4, .lcmp, .ifCond .gt 10, .iconst (1), .goto 11, .iconst (0), .freturn]]
/-- OneIsTwoModel.of(II)I -/
def pm_152 : List (List Instr) := [[.aload 0, .getfield 3074, .iconst (10), .iconst (10), .iload 1, .imul, .iadd, .iload 2, .iadd, .iaload, .ireturn]]
/-- OneIsTwoModel.isPerson(I)Z -/
def pm_153 : List (List Instr) := [[.iload 1, .i2l, .goto_w (0), .aload 0, .getfield 3074, .iconst (1), .iaload, .iconst (1), .isub, .i2l, .invokestatic 151, .freturn]]
/-- OneIsTwoModel.isAwake(I)Z -/
def pm_154 : List (List Instr) := [[.aload 0, .iload 1, .iconst (0), .invokestatic 152, .i2l, .goto_w (1), .goto_w (4), .invokestatic 151, .freturn]]
/-- OneIsTwoModel.isCopy(I)Z -/
def pm_155 : List (List Instr) := [[.aload 0, .iload 1, .iconst (1), .invokestatic 152, .iconst (2), .if_icmp .eq 18, .aload 0, .iload 1, .iconst (1), .invokestatic 152, .iconst (3), .if_icmp .eq 18, .aload 0, .iload 1, .iconst (1), .invokestatic 152], [.iconst (5), .if_icmp .ne 20, .iconst (1), .goto 21, .iconst (0), .freturn]]
/-- OneIsTwoModel.awakeMany()I -/
def pm_156 : List (List Instr) := [[.iconst (0), .istore 1, .iconst (0), .istore 2, .iload 2, .aload 0, .getfield 3074, .iconst (1), .iaload, .if_icmp .ge 22, .iload 1, .aload 0, .iload 2, .invokestatic 154, .ifCond .eq 17, .iconst (1)], [.goto 18, .iconst (0), .iadd, .istore 1, .iinc 2 (1), .goto 4, .iload 1, .ireturn]]
/-- OneIsTwoModel.divisor(JJ)J -/
def pm_157 : List (List Instr) := [[.lload 0, .goto_w (0), .lcmp, .ifCond .ge 7, .lload 0, .lneg, .goto 8, .lload 0, .lstore 4, .lload 2, .lstore 6, .lload 6, .goto_w (0), .lcmp, .ifCond .le 24, .lload 4], [.lload 6, .lrem, .lstore 8, .lload 6, .lstore 4, .lload 8, .lstore 6, .goto 11, .lload 4, .lreturn]]
/-- OneIsTwoModel.part(JJI)J -/
def pm_158 : List (List Instr) := [[.lload 0, .lload 2, .invokestatic 157, .lstore 5, .iload 4, .ifCond .ne 10, .lload 0, .lload 5, .ldiv, .goto 13, .lload 2, .lload 5, .ldiv, .lreturn]]
/-- OneIsTwoModel.event(II)V -/
def pm_159 : List (List Instr) := [[.iconst (130), .iconst (3), .aload 0, .getfield 3074, .iconst (2), .iaload, .imul, .iadd, .istore 3, .aload 0, .getfield 3074, .iload 3, .iload 1, .iastore, .aload 0, .getfield 3074], [.iload 3, .iconst (1), .iadd, .iload 2, .iastore, .aload 0, .getfield 3074, .iload 3, .iconst (2), .iadd, .aload 0, .getfield 3074, .iconst (0), .iaload, .iastore, .aload 0], [.getfield 3074, .iconst (2), .dup2, .iaload, .iconst (1), .iadd, .iastore, .return_]]
/-- OneIsTwoModel.later(I)I -/
def pm_160 : List (List Instr) := [[.iload 1, .i2l, .goto_w (1), .goto_w (99), .invokestatic 151, .ifCond .ne 8, .bipush (-1), .ireturn, .aload 0, .getfield 3074, .iconst (0), .iaload, .iload 1, .iadd, .iconst (999), .if_icmp .le 18], [.bipush (-2), .ireturn, .aload 0, .getfield 3074, .iconst (0), .dup2, .iaload, .iload 1, .iadd, .iastore, .aload 0, .getfield 3074, .iconst (0), .iaload, .ireturn]]
/-- OneIsTwoModel.hasRoom()Z -/
def pm_161 : List (List Instr) := [[.aload 0, .getfield 3074, .iconst (1), .iaload, .iconst (12), .if_icmp .ge 14, .aload 0, .getfield 3074, .iconst (2), .iaload, .iconst (18), .if_icmp .ge 14, .iconst (1), .goto 15, .iconst (0), .freturn]]
/-- OneIsTwoModel.comes(IIII)I -/
def pm_162 : List (List Instr) := [[.aload 0, .getfield 3074, .iconst (1), .iaload, .istore 5, .iconst (10), .iconst (10), .iload 5, .imul, .iadd, .istore 6, .aload 0, .getfield 3074, .iload 6, .iconst (0), .iadd], [.iload 2, .iastore, .aload 0, .getfield 3074, .iload 6, .iconst (1), .iadd, .iload 2, .iastore, .aload 0, .getfield 3074, .iload 6, .iconst (2), .iadd, .iload 3, .iastore], [.aload 0, .getfield 3074, .iload 6, .iconst (3), .iadd, .iload 4, .iastore, .aload 0, .getfield 3074, .iload 6, .iconst (4), .iadd, .aload 0, .getfield 3074, .iconst (0), .iaload], [.iastore, .aload 0, .getfield 3074, .iload 6, .iconst (5), .iadd, .bipush (-9), .iastore, .aload 0, .getfield 3074, .iload 6, .iconst (6), .iadd, .bipush (-9), .iastore, .aload 0], [.getfield 3074, .iload 6, .iconst (7), .iadd, .bipush (-9), .iastore, .aload 0, .getfield 3074, .iload 6, .iconst (8), .iadd, .iconst (1), .iastore, .aload 0, .getfield 3074, .iload 6], [.iconst (9), .iadd, .aload 0, .getfield 3074, .iconst (2), .iaload, .iastore, .aload 0, .getfield 3074, .iconst (1), .dup2, .iaload, .iconst (1), .iadd, .iastore, .aload 0], [.iload 1, .iload 5, .invokestatic 159, .iload 5, .ireturn]]
/-- OneIsTwoModel.born()I -/
def pm_163 : List (List Instr) := [[.aload 0, .invokestatic 161, .ifCond .eq 10, .aload 0, .iconst (0), .iconst (1), .bipush (-9), .bipush (-9), .invokestatic 162, .goto 11, .bipush (-2), .ireturn]]
/-- OneIsTwoModel.copies(IIIIZ)I -/
def pm_164 : List (List Instr) := [[.aload 0, .iconst (1), .iload 2, .iload 1, .bipush (-9), .invokestatic 162, .istore 6, .iconst (10), .iconst (10), .iload 6, .imul, .iadd, .istore 7, .aload 0, .getfield 3074, .iload 7], [.iconst (5), .iadd, .iload 4, .iastore, .aload 0, .getfield 3074, .iload 7, .iconst (6), .iadd, .iload 2, .iconst (3), .if_icmp .ne 30, .iload 3, .goto 31, .iconst (2), .iastore], [.aload 0, .getfield 3074, .iload 7, .iconst (8), .iadd, .iload 5, .ifCond .eq 41, .iconst (1), .goto 42, .iconst (0), .iastore, .iload 6, .ireturn]]
/-- OneIsTwoModel.copied(IIIIZ)I -/
def pm_165 : List (List Instr) := [[.aload 0, .iload 1, .invokestatic 153, .ifCond .eq 32, .iload 2, .iconst (2), .if_icmp .eq 13, .iload 2, .iconst (3), .if_icmp .eq 13, .iload 2, .iconst (5), .if_icmp .ne 32, .iload 2, .iconst (3), .if_icmp .ne 22], [.iload 3, .i2l, .goto_w (1), .goto_w (3), .invokestatic 151, .ifCond .eq 32, .iload 4, .i2l, .goto_w (0), .aload 0, .getfield 3074, .iconst (0), .iaload, .i2l, .invokestatic 151, .ifCond .ne 34], [.bipush (-1), .ireturn, .aload 0, .iload 1, .invokestatic 154, .ifCond .ne 40, .bipush (-4), .ireturn, .aload 0, .invokestatic 161, .ifCond .eq 51, .aload 0, .iload 1, .iload 2, .iload 3, .iload 4], [.iload 5, .invokestatic 164, .goto 52, .bipush (-2), .ireturn]]
/-- OneIsTwoModel.wake(I)I -/
def pm_166 : List (List Instr) := [[.aload 0, .iload 1, .invokestatic 153, .ifCond .ne 6, .bipush (-1), .ireturn, .aload 0, .iload 1, .iconst (0), .invokestatic 152, .iconst (5), .if_icmp .eq 14, .bipush (-4), .ireturn, .aload 0, .getfield 3074], [.iconst (2), .iaload, .iconst (18), .if_icmp .ne 22, .bipush (-2), .ireturn, .aload 0, .getfield 3074, .iconst (10), .iconst (10), .iload 1, .imul, .iadd, .iconst (0), .iadd, .iconst (2)], [.iastore, .aload 0, .iconst (2), .iload 1, .invokestatic 159, .iconst (1), .ireturn]]
/-- OneIsTwoModel.joins(II)I -/
def pm_167 : List (List Instr) := [[.aload 0, .iconst (3), .iconst (4), .iload 1, .iload 2, .invokestatic 162, .istore 3, .aload 0, .getfield 3074, .iconst (10), .iconst (10), .iload 1, .imul, .iadd, .iconst (0), .iadd], [.iconst (6), .iastore, .aload 0, .getfield 3074, .iconst (10), .iconst (10), .iload 2, .imul, .iadd, .iconst (0), .iadd, .iconst (6), .iastore, .aload 0, .getfield 3074, .iconst (10)], [.iconst (10), .iload 1, .imul, .iadd, .iconst (7), .iadd, .iload 3, .iastore, .aload 0, .getfield 3074, .iconst (10), .iconst (10), .iload 2, .imul, .iadd, .iconst (7)], [.iadd, .iload 3, .iastore, .iload 3, .ireturn]]
/-- OneIsTwoModel.join(II)I -/
def pm_168 : List (List Instr) := [[.aload 0, .iload 1, .invokestatic 153, .ifCond .eq 11, .aload 0, .iload 2, .invokestatic 153, .ifCond .eq 11, .iload 1, .iload 2, .if_icmp .ne 13, .bipush (-1), .ireturn, .aload 0, .iload 1, .invokestatic 154], [.ifCond .eq 21, .aload 0, .iload 2, .invokestatic 154, .ifCond .ne 23, .bipush (-4), .ireturn, .aload 0, .invokestatic 161, .ifCond .eq 31, .aload 0, .iload 1, .iload 2, .invokestatic 167, .goto 32, .bipush (-2)], [.ireturn]]
/-- OneIsTwoModel.ends(I)V -/
def pm_169 : List (List Instr) := [[.aload 0, .getfield 3074, .iconst (10), .iconst (10), .iload 1, .imul, .iadd, .iconst (0), .iadd, .iconst (6), .iastore, .aload 0, .iconst (4), .iload 1, .invokestatic 159, .return_]]
/-- OneIsTwoModel.end(I)I -/
def pm_170 : List (List Instr) := [[.aload 0, .iload 1, .invokestatic 153, .ifCond .ne 6, .bipush (-1), .ireturn, .aload 0, .iload 1, .iconst (0), .invokestatic 152, .iconst (6), .if_icmp .ne 14, .bipush (-4), .ireturn, .aload 0, .getfield 3074], [.iconst (2), .iaload, .iconst (18), .if_icmp .ne 22, .bipush (-2), .ireturn, .aload 0, .iload 1, .invokestatic 169, .aload 0, .invokestatic 156, .ireturn]]
/-- OneIsTwoModel.rootOf(I)I -/
def pm_171 : List (List Instr) := [[.iload 1, .istore 2, .aload 0, .iload 2, .iconst (2), .invokestatic 152, .ifCond .lt 13, .aload 0, .iload 2, .iconst (2), .invokestatic 152, .istore 2, .goto 2, .iload 2, .ireturn]]
/-- OneIsTwoModel.isVoid(I)Z -/
def pm_172 : List (List Instr) := [[.aload 0, .iload 1, .invokestatic 155, .ifCond .eq 21, .aload 0, .iload 1, .iconst (8), .invokestatic 152, .ifCond .ne 21, .aload 0, .iconst (5), .aload 0, .iload 1, .iconst (9), .invokestatic 152, .bipush (-1)], [.invokestatic 198, .iconst (1), .if_icmp .ne 21, .iconst (1), .goto 22, .iconst (0), .freturn]]
/-- OneIsTwoModel.person(II)I -/
def pm_173 : List (List Instr) := [[.aload 0, .iload 1, .invokestatic 153, .ifCond .eq 10, .iload 2, .i2l, .goto_w (0), .goto_w (8), .invokestatic 151, .ifCond .ne 12, .bipush (-1), .ireturn, .iload 2, .tableswitch 57 0 7 #[14, 19, 24, 29, 34, 39, 44, 49], .aload 0, .iload 1], [.iconst (0), .invokestatic 152, .ireturn, .aload 0, .iload 1, .iconst (2), .invokestatic 152, .ireturn, .aload 0, .iload 1, .iconst (3), .invokestatic 152, .ireturn, .aload 0, .iload 1, .iconst (4)], [.invokestatic 152, .ireturn, .aload 0, .iload 1, .iconst (5), .invokestatic 152, .ireturn, .aload 0, .iload 1, .iconst (6), .invokestatic 152, .ireturn, .aload 0, .iload 1, .iconst (7), .invokestatic 152], [.ireturn, .aload 0, .iload 1, .invokestatic 172, .ifCond .eq 55, .iconst (1), .goto 56, .iconst (0), .ireturn, .aload 0, .iload 1, .invokestatic 171, .ireturn]]
/-- OneIsTwoModel.above(I)I -/
def pm_174 : List (List Instr) := [[.iconst (1), .iload 1, .ishl, .istore 2, .iload 1, .istore 3, .iload 3, .ifCond .lt 49, .iload 2, .iload 3, .ishr, .iconst (1), .iand, .iconst (1), .if_icmp .ne 47, .iload 2], [.aload 0, .iload 3, .iconst (2), .invokestatic 152, .ifCond .lt 28, .iconst (1), .aload 0, .iload 3, .iconst (2), .invokestatic 152, .ishl, .goto 29, .iconst (0), .ior, .istore 2, .iload 2], [.aload 0, .iload 3, .iconst (3), .invokestatic 152, .ifCond .lt 44, .iconst (1), .aload 0, .iload 3, .iconst (3), .invokestatic 152, .ishl, .goto 45, .iconst (0), .ior, .istore 2, .iinc 3 (-1)], [.goto 6, .iload 2, .ireturn]]
/-- OneIsTwoModel.kin(I)I -/
def pm_175 : List (List Instr) := [[.aload 0, .iload 1, .invokestatic 153, .ifCond .ne 6, .bipush (-1), .ireturn, .iconst (0), .istore 2, .iconst (0), .istore 3, .iload 3, .aload 0, .getfield 3074, .iconst (1), .iaload, .if_icmp .ge 35], [.iload 2, .aload 0, .iload 3, .invokestatic 174, .iload 1, .ishr, .iconst (1), .iand, .iconst (1), .if_icmp .ne 30, .iconst (1), .iload 3, .ishl, .goto 31, .iconst (0), .ior], [.istore 2, .iinc 3 (1), .goto 10, .iload 2, .ireturn]]
/-- OneIsTwoModel.common(II)I -/
def pm_176 : List (List Instr) := [[.aload 0, .iload 1, .invokestatic 153, .ifCond .eq 8, .aload 0, .iload 2, .invokestatic 153, .ifCond .ne 10, .bipush (-1), .ireturn, .aload 0, .iload 1, .invokestatic 174, .aload 0, .iload 2, .invokestatic 174], [.iand, .istore 3, .bipush (-9), .istore 4, .iconst (0), .istore 5, .iload 5, .aload 0, .getfield 3074, .iconst (1), .iaload, .if_icmp .ge 41, .iload 3, .iload 5, .ishr, .iconst (1)], [.iand, .iconst (1), .if_icmp .ne 37, .iload 5, .goto 38, .iload 4, .istore 4, .iinc 5 (1), .goto 22, .iload 4, .ireturn]]
/-- OneIsTwoModel.feed(JI)I -/
def pm_177 : List (List Instr) := [[.iload 3, .i2l, .goto_w (1), .goto_w (8), .invokestatic 151, .ifCond .ne 8, .bipush (-1), .ireturn, .aload 0, .getfield 3100, .iload 3, .iadd, .iconst (200), .if_icmp .le 16, .bipush (-2), .ireturn], [.iconst (0), .istore 4, .iload 4, .iload 3, .if_icmp .ge 42, .aload 0, .getfield 3090, .aload 0, .getfield 3100, .lload 1, .iconst (8), .iload 4, .imul, .lshr, .goto_w (255), .land], [.l2i, .iastore, .aload 0, .dup, .getfield 3100, .iconst (1), .iadd, .putfield 3100, .iinc 4 (1), .goto 18, .aload 0, .getfield 3100, .ireturn]]
/-- OneIsTwoModel.byteAt(I)I -/
def pm_178 : List (List Instr) := [[.iload 1, .aload 0, .getfield 3100, .if_icmp .ge 9, .aload 0, .getfield 3090, .iload 1, .iaload, .goto 10, .bipush (-1), .ireturn]]
/-- OneIsTwoModel.isLetter(I)Z -/
def pm_179 : List (List Instr) := [[.iload 0, .i2l, .goto_w (97), .goto_w (122), .invokestatic 151, .freturn]]
/-- OneIsTwoModel.isDigit(I)Z -/
def pm_180 : List (List Instr) := [[.iload 0, .i2l, .goto_w (48), .goto_w (57), .invokestatic 151, .freturn]]
/-- OneIsTwoModel.next()V -/
def pm_181 : List (List Instr) := [[.aload 0, .aload 0, .getfield 3108, .putfield 3104, .aload 0, .aload 0, .getfield 3104, .invokestatic 178, .iconst (32), .if_icmp .ne 17, .aload 0, .dup, .getfield 3104, .iconst (1), .iadd, .putfield 3104], [.goto 4, .aload 0, .aload 0, .getfield 3104, .invokestatic 178, .invokestatic 179, .istore 1, .aload 0, .aload 0, .getfield 3104, .invokestatic 178, .invokestatic 180, .istore 2, .aload 0, .aload 0, .getfield 3104], [.aload 0, .getfield 3100, .if_icmp .ge 40, .aload 0, .getfield 3104, .iconst (1), .iadd, .goto 42, .aload 0, .getfield 3104, .putfield 3108, .iload 1, .ifCond .eq 51, .aload 0, .aload 0, .getfield 3108], [.invokestatic 178, .invokestatic 179, .ifCond .ne 59, .iload 2, .ifCond .eq 66, .aload 0, .aload 0, .getfield 3108, .invokestatic 178, .invokestatic 180, .ifCond .eq 66, .aload 0, .dup, .getfield 3108, .iconst (1), .iadd], [.putfield 3108, .goto 43, .return_]]
/-- OneIsTwoModel.needs(Z)V -/
def pm_182 : List (List Instr) := [[.aload 0, .aload 0, .getfield 3124, .ifCond .ne 6, .iload 1, .ifCond .ne 8, .iconst (1), .goto 9, .iconst (0), .putfield 3127, .aload 0, .getfield 3124, .ifCond .ne 15, .aload 0, .invokestatic 181, .return_]]
/-- OneIsTwoModel.emits(I)V -/
def pm_183 : List (List Instr) := [[.aload 0, .getfield 3124, .ifCond .ne 15, .aload 0, .getfield 3094, .aload 0, .getfield 3116, .iload 1, .iastore, .aload 0, .dup, .getfield 3116, .iconst (1), .iadd, .putfield 3116, .return_]]
/-- OneIsTwoModel.isAt(II)Z -/
def pm_184 : List (List Instr) := [[.iload 2, .ifCond .eq 10, .aload 0, .aload 0, .getfield 3104, .iload 1, .iadd, .invokestatic 178, .iload 2, .if_icmp .ne 12, .iconst (1), .goto 13, .iconst (0), .freturn]]
/-- OneIsTwoModel.isName(IIIIII)Z -/
def pm_185 : List (List Instr) := [[.iload 3, .ifCond .ne 4, .iconst (2), .goto 17, .iload 4, .ifCond .ne 8, .iconst (3), .goto 17, .iload 5, .ifCond .ne 12, .iconst (4), .goto 17, .iload 6, .ifCond .ne 16, .iconst (5), .goto 17], [.iconst (6), .istore 7, .aload 0, .getfield 3108, .aload 0, .getfield 3104, .isub, .iload 7, .if_icmp .ne 57, .aload 0, .iconst (0), .iload 1, .invokestatic 184, .ifCond .eq 57, .aload 0, .iconst (1)], [.iload 2, .invokestatic 184, .ifCond .eq 57, .aload 0, .iconst (2), .iload 3, .invokestatic 184, .ifCond .eq 57, .aload 0, .iconst (3), .iload 4, .invokestatic 184, .ifCond .eq 57, .aload 0, .iconst (4), .iload 5], [.invokestatic 184, .ifCond .eq 57, .aload 0, .iconst (5), .iload 6, .invokestatic 184, .ifCond .eq 57, .iconst (1), .goto 58, .iconst (0), .freturn]]
/-- OneIsTwoModel.keyHere()I -/
def pm_186 : List (List Instr) := [[.aload 0, .iconst (111), .iconst (119), .iconst (101), .iconst (115), .iconst (0), .iconst (0), .invokestatic 185, .ifCond .eq 11, .iconst (0), .goto 78, .aload 0, .iconst (111), .iconst (119), .iconst (110), .iconst (115)], [.iconst (0), .iconst (0), .invokestatic 185, .ifCond .eq 22, .iconst (1), .goto 78, .aload 0, .iconst (98), .iconst (108), .iconst (97), .iconst (109), .iconst (101), .iconst (0), .invokestatic 185, .ifCond .eq 33, .iconst (2)], [.goto 78, .aload 0, .iconst (118), .iconst (111), .iconst (116), .iconst (101), .iconst (0), .iconst (0), .invokestatic 185, .ifCond .eq 44, .iconst (3), .goto 78, .aload 0, .iconst (119), .iconst (101), .iconst (100)], [.iconst (0), .iconst (0), .iconst (0), .invokestatic 185, .ifCond .eq 55, .iconst (4), .goto 78, .aload 0, .iconst (108), .iconst (101), .iconst (97), .iconst (118), .iconst (101), .iconst (0), .invokestatic 185, .ifCond .eq 66], [.iconst (5), .goto 78, .aload 0, .iconst (115), .iconst (108), .iconst (101), .iconst (101), .iconst (112), .iconst (0), .invokestatic 185, .ifCond .eq 77, .iconst (6), .goto 78, .bipush (-1), .ireturn]]
/-- OneIsTwoModel.valueHere(I)I -/
def pm_187 : List (List Instr) := [[.iload 1, .tableswitch 188 0 5 #[2, 2, 48, 83, 118, 164], .aload 0, .iconst (102), .iconst (105), .iconst (114), .iconst (115), .iconst (116), .iconst (0), .invokestatic 185, .ifCond .eq 13, .iconst (0), .goto 47, .aload 0, .iconst (99), .iconst (111)], [.iconst (112), .iconst (121), .iconst (0), .iconst (0), .invokestatic 185, .ifCond .eq 24, .iconst (1), .goto 47, .aload 0, .iconst (115), .iconst (104), .iconst (97), .iconst (114), .iconst (101), .iconst (100), .invokestatic 185], [.ifCond .eq 35, .iconst (2), .goto 47, .aload 0, .iconst (97), .iconst (108), .iconst (108), .iconst (0), .iconst (0), .iconst (0), .invokestatic 185, .ifCond .eq 46, .iconst (3), .goto 47, .bipush (-1), .ireturn], [.aload 0, .iconst (98), .iconst (111), .iconst (100), .iconst (121), .iconst (0), .iconst (0), .invokestatic 185, .ifCond .eq 59, .iconst (0), .goto 82, .aload 0, .iconst (109), .iconst (101), .iconst (109), .iconst (111)], [.iconst (114), .iconst (121), .invokestatic 185, .ifCond .eq 70, .iconst (1), .goto 82, .aload 0, .iconst (114), .iconst (111), .iconst (111), .iconst (116), .iconst (0), .iconst (0), .invokestatic 185, .ifCond .eq 81, .iconst (2)], [.goto 82, .bipush (-1), .ireturn, .aload 0, .iconst (101), .iconst (97), .iconst (99), .iconst (104), .iconst (0), .iconst (0), .invokestatic 185, .ifCond .eq 94, .iconst (0), .goto 117, .aload 0, .iconst (114)], [.iconst (111), .iconst (111), .iconst (116), .iconst (0), .iconst (0), .invokestatic 185, .ifCond .eq 105, .iconst (1), .goto 117, .aload 0, .iconst (115), .iconst (104), .iconst (97), .iconst (114), .iconst (101), .iconst (0)], [.invokestatic 185, .ifCond .eq 116, .iconst (2), .goto 117, .bipush (-1), .ireturn, .aload 0, .iconst (109), .iconst (97), .iconst (107), .iconst (101), .iconst (114), .iconst (0), .invokestatic 185, .ifCond .eq 129, .iconst (0)], [.goto 163, .aload 0, .iconst (99), .iconst (111), .iconst (112), .iconst (121), .iconst (0), .iconst (0), .invokestatic 185, .ifCond .eq 140, .iconst (1), .goto 163, .aload 0, .iconst (98), .iconst (111), .iconst (116)], [.iconst (104), .iconst (0), .iconst (0), .invokestatic 185, .ifCond .eq 151, .iconst (2), .goto 163, .aload 0, .iconst (110), .iconst (111), .iconst (110), .iconst (101), .iconst (0), .iconst (0), .invokestatic 185, .ifCond .eq 162], [.iconst (3), .goto 163, .bipush (-1), .ireturn, .aload 0, .iconst (102), .iconst (114), .iconst (101), .iconst (101), .iconst (0), .iconst (0), .invokestatic 185, .ifCond .eq 175, .iconst (0), .goto 187, .aload 0], [.iconst (110), .iconst (101), .iconst (101), .iconst (100), .iconst (101), .iconst (100), .invokestatic 185, .ifCond .eq 186, .iconst (1), .goto 187, .bipush (-1), .ireturn, .aload 0, .iconst (114), .iconst (101), .iconst (115)], [.iconst (116), .iconst (115), .iconst (0), .invokestatic 185, .ifCond .eq 199, .iconst (0), .goto 211, .aload 0, .iconst (98), .iconst (101), .iconst (97), .iconst (114), .iconst (115), .iconst (0), .invokestatic 185, .ifCond .eq 210], [.iconst (1), .goto 211, .bipush (-1), .ireturn]]
/-- OneIsTwoModel.factHere()I -/
def pm_188 : List (List Instr) := [[.aload 0, .iconst (100), .iconst (97), .iconst (121), .iconst (0), .iconst (0), .iconst (0), .invokestatic 185, .ifCond .eq 11, .iconst (0), .goto 67, .aload 0, .iconst (109), .iconst (97), .iconst (100), .iconst (101)], [.iconst (0), .iconst (0), .invokestatic 185, .ifCond .eq 22, .iconst (1), .goto 67, .aload 0, .iconst (103), .iconst (97), .iconst (112), .iconst (0), .iconst (0), .iconst (0), .invokestatic 185, .ifCond .eq 33, .iconst (2)], [.goto 67, .aload 0, .iconst (107), .iconst (105), .iconst (110), .iconst (100), .iconst (0), .iconst (0), .invokestatic 185, .ifCond .eq 44, .iconst (3), .goto 67, .aload 0, .iconst (97), .iconst (109), .iconst (111)], [.iconst (117), .iconst (110), .iconst (116), .invokestatic 185, .ifCond .eq 55, .iconst (4), .goto 67, .aload 0, .iconst (104), .iconst (101), .iconst (108), .iconst (100), .iconst (0), .iconst (0), .invokestatic 185, .ifCond .eq 66], [.iconst (5), .goto 67, .bipush (-1), .ireturn]]
/-- OneIsTwoModel.value()V -/
def pm_189 : List (List Instr) := [[.aload 0, .getfield 3124, .ifCond .eq 4, .return_, .aload 0, .aload 0, .getfield 3104, .invokestatic 178, .invokestatic 180, .ifCond .eq 54, .iconst (0), .istore 1, .aload 0, .getfield 3104, .istore 2, .iload 2], [.aload 0, .getfield 3108, .if_icmp .ge 38, .iload 2, .aload 0, .getfield 3104, .iconst (4), .iadd, .if_icmp .ge 38, .iconst (10), .iload 1, .imul, .aload 0, .getfield 3090, .iload 2, .iaload], [.iadd, .iconst (48), .isub, .istore 1, .iinc 2 (1), .goto 15, .aload 0, .iload 1, .invokestatic 183, .aload 0, .aload 0, .getfield 3108, .aload 0, .getfield 3104, .isub, .iconst (4)], [.if_icmp .gt 51, .iconst (1), .goto 52, .iconst (0), .invokestatic 182, .return_, .aload 0, .invokestatic 188, .istore 1, .aload 0, .iconst (10000), .iload 1, .iadd, .invokestatic 183, .aload 0, .iload 1], [.ifCond .lt 67, .iconst (1), .goto 68, .iconst (0), .invokestatic 182, .return_]]
/-- OneIsTwoModel.single()V -/
def pm_190 : List (List Instr) := [[.iconst (0), .istore 1, .aload 0, .getfield 3124, .ifCond .ne 24, .aload 0, .iconst (110), .iconst (111), .iconst (116), .iconst (0), .iconst (0), .iconst (0), .invokestatic 185, .ifCond .eq 24, .iload 1, .ifCond .ne 18], [.iconst (1), .goto 19, .iconst (0), .istore 1, .aload 0, .iconst (1), .invokestatic 182, .goto 2, .aload 0, .getfield 3124, .ifCond .eq 28, .return_, .aload 0, .aload 0, .getfield 3104, .invokestatic 178], [.iconst (40), .if_icmp .ne 69, .aload 0, .aload 0, .getfield 3112, .iconst (3), .if_icmp .ge 41, .iconst (1), .goto 42, .iconst (0), .invokestatic 182, .aload 0, .dup, .getfield 3112, .iconst (1), .iadd], [.putfield 3112, .aload 0, .invokestatic 192, .aload 0, .aload 0, .aload 0, .getfield 3104, .invokestatic 178, .iconst (41), .if_icmp .ne 60, .iconst (1), .goto 61, .iconst (0), .invokestatic 182, .aload 0, .dup], [.getfield 3112, .iconst (1), .isub, .putfield 3112, .goto 97, .aload 0, .invokestatic 189, .aload 0, .aload 0, .getfield 3104, .invokestatic 178, .istore 2, .aload 0, .iload 2, .iconst (60), .if_icmp .eq 86], [.iload 2, .iconst (61), .if_icmp .eq 86, .iload 2, .iconst (62), .if_icmp .ne 88, .iconst (1), .goto 89, .iconst (0), .invokestatic 182, .aload 0, .invokestatic 189, .aload 0, .iconst (10020), .iload 2, .iadd], [.invokestatic 183, .iload 1, .ifCond .eq 102, .aload 0, .iconst (10010), .invokestatic 183, .return_]]
/-- OneIsTwoModel.every()V -/
def pm_191 : List (List Instr) := [[.aload 0, .invokestatic 190, .aload 0, .getfield 3124, .ifCond .ne 23, .aload 0, .iconst (97), .iconst (110), .iconst (100), .iconst (0), .iconst (0), .iconst (0), .invokestatic 185, .ifCond .eq 23, .aload 0, .iconst (1)], [.invokestatic 182, .aload 0, .invokestatic 190, .aload 0, .iconst (10011), .invokestatic 183, .goto 2, .return_]]
/-- OneIsTwoModel.condition()V -/
def pm_192 : List (List Instr) := [[.aload 0, .invokestatic 191, .aload 0, .getfield 3124, .ifCond .ne 23, .aload 0, .iconst (111), .iconst (114), .iconst (0), .iconst (0), .iconst (0), .iconst (0), .invokestatic 185, .ifCond .eq 23, .aload 0, .iconst (1)], [.invokestatic 182, .aload 0, .invokestatic 191, .aload 0, .iconst (10012), .invokestatic 183, .goto 2, .return_]]
/-- OneIsTwoModel.oneClause()V -/
def pm_193 : List (List Instr) := [[.aload 0, .invokestatic 186, .istore 1, .aload 0, .getfield 3116, .istore 2, .aload 0, .iload 1, .ifCond .lt 15, .aload 0, .getfield 3120, .iconst (10), .if_icmp .ge 15, .iconst (1), .goto 16, .iconst (0)], [.invokestatic 182, .aload 0, .getfield 3124, .ifCond .eq 22, .bipush (-1), .goto 25, .aload 0, .iload 1, .invokestatic 187, .istore 3, .aload 0, .iload 3, .ifCond .lt 31, .iconst (1), .goto 32, .iconst (0)], [.invokestatic 182, .aload 0, .getfield 3124, .ifCond .ne 47, .aload 0, .iconst (105), .iconst (102), .iconst (0), .iconst (0), .iconst (0), .iconst (0), .invokestatic 185, .ifCond .eq 47, .iconst (1), .goto 48, .iconst (0)], [.istore 4, .iload 4, .ifCond .eq 56, .aload 0, .iconst (1), .invokestatic 182, .aload 0, .invokestatic 192, .aload 0, .aload 0, .aload 0, .getfield 3104, .invokestatic 178, .iconst (59), .if_icmp .ne 65, .iconst (1)], [.goto 66, .iconst (0), .invokestatic 182, .aload 0, .getfield 3124, .ifCond .ne 119, .iconst (5), .aload 0, .getfield 3120, .imul, .istore 5, .aload 0, .getfield 3098, .iload 5, .iload 1, .iastore], [.aload 0, .getfield 3098, .iload 5, .iconst (1), .iadd, .iload 3, .iastore, .aload 0, .getfield 3098, .iload 5, .iconst (2), .iadd, .iload 4, .ifCond .eq 96, .iconst (1), .goto 97], [.iconst (0), .iastore, .aload 0, .getfield 3098, .iload 5, .iconst (3), .iadd, .iload 2, .iastore, .aload 0, .getfield 3098, .iload 5, .iconst (4), .iadd, .aload 0, .getfield 3116], [.iastore, .aload 0, .dup, .getfield 3120, .iconst (1), .iadd, .putfield 3120, .return_]]
/-- OneIsTwoModel.law()I -/
def pm_194 : List (List Instr) := [[.aload 0, .iconst (0), .putfield 3108, .aload 0, .iconst (0), .putfield 3112, .aload 0, .iconst (0), .putfield 3116, .aload 0, .iconst (0), .putfield 3120, .aload 0, .iconst (0), .putfield 3127, .aload 0], [.invokestatic 181, .aload 0, .getfield 3124, .ifCond .ne 28, .aload 0, .getfield 3104, .aload 0, .getfield 3100, .if_icmp .ge 28, .aload 0, .invokestatic 193, .goto 17, .aload 0, .iconst (0), .putfield 3100, .aload 0], [.getfield 3124, .ifCond .eq 39, .bipush (-100), .aload 0, .getfield 3104, .isub, .ireturn, .aload 0, .getfield 3074, .iconst (6), .aload 0, .getfield 3120, .iastore, .aload 0, .getfield 3074, .iconst (8)], [.aload 0, .getfield 3116, .iastore, .iconst (0), .istore 1, .iload 1, .iconst (50), .if_icmp .ge 76, .aload 0, .getfield 3074, .iconst (296), .iload 1, .iadd, .iload 1, .iconst (5), .aload 0], [.getfield 3120, .imul, .if_icmp .ge 72, .aload 0, .getfield 3098, .iload 1, .iaload, .goto 73, .iconst (0), .iastore, .iinc 1 (1), .goto 53, .iconst (0), .istore 1, .iload 1, .iconst (200)], [.if_icmp .ge 99, .aload 0, .getfield 3074, .iconst (346), .iload 1, .iadd, .iload 1, .aload 0, .getfield 3116, .if_icmp .ge 95, .aload 0, .getfield 3094, .iload 1, .iaload, .goto 96, .iconst (0)], [.iastore, .iinc 1 (1), .goto 78, .aload 0, .getfield 3120, .ireturn]]
/-- OneIsTwoModel.both(III)I -/
def pm_195 : List (List Instr) := [[.iload 0, .lookupswitch 24 #[(10011, 2), (10012, 6), (10080, 10), (10081, 17)], .iload 1, .iload 2, .iand, .ireturn, .iload 1, .iload 2, .ior, .ireturn, .iload 1, .iload 2, .if_icmp .ge 15, .iconst (1), .goto 16, .iconst (0)], [.ireturn, .iload 1, .iload 2, .if_icmp .ne 22, .iconst (1), .goto 23, .iconst (0), .ireturn, .iload 1, .iload 2, .if_icmp .le 29, .iconst (1), .goto 30, .iconst (0), .ireturn]]
/-- OneIsTwoModel.holds(I)Z -/
def pm_196 : List (List Instr) := [[.iconst (296), .iconst (5), .iload 1, .imul, .iadd, .istore 2, .iconst (0), .istore 3, .aload 0, .getfield 3074, .iload 2, .iconst (3), .iadd, .iaload, .istore 4, .iload 4], [.aload 0, .getfield 3074, .iload 2, .iconst (4), .iadd, .iaload, .if_icmp .ge 89, .aload 0, .getfield 3074, .iconst (346), .iload 4, .iadd, .iaload, .istore 5, .iload 5, .iconst (10010)], [.if_icmp .ge 50, .aload 0, .getfield 3134, .iload 3, .iload 5, .iconst (10000), .if_icmp .ge 41, .iload 5, .goto 47, .aload 0, .getfield 3130, .iload 5, .iconst (10000), .isub, .iaload, .iastore], [.iinc 3 (1), .goto 87, .iload 5, .iconst (10010), .if_icmp .ne 68, .aload 0, .getfield 3134, .iload 3, .iconst (1), .isub, .iconst (1), .aload 0, .getfield 3134, .iload 3, .iconst (1), .isub], [.iaload, .isub, .iastore, .goto 87, .iinc 3 (-1), .aload 0, .getfield 3134, .iload 3, .iconst (1), .isub, .iload 5, .aload 0, .getfield 3134, .iload 3, .iconst (1), .isub], [.iaload, .aload 0, .getfield 3134, .iload 3, .iaload, .invokestatic 195, .iastore, .iinc 4 (1), .goto 15, .aload 0, .getfield 3074, .iload 2, .iconst (2), .iadd, .iaload, .ifCond .eq 102], [.aload 0, .getfield 3134, .iconst (0), .iaload, .iconst (1), .if_icmp .ne 104, .iconst (1), .goto 105, .iconst (0), .freturn]]
/-- OneIsTwoModel.byFacts(I)I -/
def pm_197 : List (List Instr) := [[.aload 0, .getfield 3074, .iconst (6), .iaload, .iconst (1), .isub, .istore 2, .iload 2, .ifCond .lt 36, .aload 0, .getfield 3074, .iconst (296), .iconst (5), .iload 2, .imul, .iadd], [.iaload, .iload 1, .if_icmp .ne 34, .aload 0, .iload 2, .invokestatic 196, .ifCond .eq 34, .aload 0, .getfield 3074, .iconst (296), .iconst (5), .iload 2, .imul, .iadd, .iconst (1), .iadd], [.iaload, .ireturn, .iinc 2 (-1), .goto 7, .iconst (0), .ireturn]]
/-- OneIsTwoModel.onEvent(III)I -/
def pm_198 : List (List Instr) := [[.aload 0, .getfield 3074, .iconst (130), .iconst (3), .iload 2, .imul, .iadd, .iaload, .istore 4, .aload 0, .getfield 3074, .iconst (130), .iconst (3), .iload 2, .imul, .iadd], [.iconst (1), .iadd, .iaload, .istore 5, .iload 4, .iconst (1), .if_icmp .eq 26, .iload 4, .iconst (2), .if_icmp .ne 28, .iconst (1), .goto 29, .iconst (0), .istore 6, .aload 0, .getfield 3130], [.iconst (0), .aload 0, .getfield 3074, .iconst (130), .iconst (3), .iload 2, .imul, .iadd, .iconst (2), .iadd, .iaload, .iastore, .aload 0, .getfield 3130, .iconst (1), .iload 4], [.iconst (3), .if_icmp .ne 55, .aload 0, .iload 5, .iconst (2), .invokestatic 152, .goto 56, .iload 5, .iastore, .aload 0, .getfield 3130, .iconst (2), .iload 6, .ifCond .eq 72, .aload 0, .iload 5], [.iconst (4), .invokestatic 152, .aload 0, .iload 5, .iconst (5), .invokestatic 152, .isub, .goto 73, .iconst (0), .iastore, .aload 0, .getfield 3130, .iconst (3), .iload 4, .iconst (4), .if_icmp .ne 82], [.iconst (6), .goto 86, .aload 0, .iload 5, .iconst (1), .invokestatic 152, .iastore, .aload 0, .getfield 3130, .iconst (4), .iload 3, .ifCond .ge 94, .iconst (0), .goto 104, .aload 0, .getfield 3074], [.iconst (184), .iconst (5), .iload 3, .imul, .iadd, .iconst (2), .iadd, .iaload, .iastore, .aload 0, .getfield 3130, .iconst (5), .iload 3, .ifCond .ge 112, .iconst (0), .goto 113], [.iload 3, .iastore, .aload 0, .iload 1, .invokestatic 197, .ireturn]]
/-- OneIsTwoModel.nowAbout(II)I -/
def pm_199 : List (List Instr) := [[.aload 0, .getfield 3130, .iconst (0), .aload 0, .getfield 3074, .iconst (0), .iaload, .iastore, .aload 0, .getfield 3130, .iconst (1), .aload 0, .getfield 3074, .iconst (1), .iaload, .iastore], [.aload 0, .getfield 3130, .iconst (2), .iconst (0), .iastore, .aload 0, .getfield 3130, .iconst (3), .aload 0, .iload 2, .iconst (0), .invokestatic 152, .iastore, .aload 0, .getfield 3130, .iconst (4)], [.iconst (0), .iastore, .aload 0, .getfield 3130, .iconst (5), .iconst (0), .iastore, .aload 0, .iload 1, .invokestatic 197, .ireturn]]
/-- OneIsTwoModel.says(II)I -/
def pm_200 : List (List Instr) := [[.iload 1, .i2l, .goto_w (0), .goto_w (6), .invokestatic 151, .ifCond .eq 15, .aload 0, .iload 2, .invokestatic 153, .ifCond .eq 15, .aload 0, .iload 1, .iload 2, .invokestatic 199, .goto 16, .bipush (-1)], [.ireturn]]
/-- OneIsTwoModel.newClaim(III)I -/
def pm_201 : List (List Instr) := [[.iconst (184), .iconst (5), .aload 0, .getfield 3074, .iconst (3), .iaload, .imul, .iadd, .istore 4, .aload 0, .getfield 3074, .iload 4, .iload 1, .iastore, .aload 0, .getfield 3074], [.iload 4, .iconst (1), .iadd, .iload 2, .iastore, .aload 0, .getfield 3074, .iload 4, .iconst (2), .iadd, .iload 3, .iastore, .aload 0, .getfield 3074, .iload 4, .iconst (3)], [.iadd, .aload 0, .getfield 3074, .iconst (0), .iaload, .iastore, .aload 0, .getfield 3074, .iload 4, .iconst (4), .iadd, .aload 0, .getfield 3074, .iconst (2), .iaload, .iastore], [.aload 0, .getfield 3074, .iconst (3), .dup2, .iaload, .iconst (1), .iadd, .iastore, .aload 0, .getfield 3074, .iconst (3), .iaload, .iconst (1), .isub, .ireturn]]
/-- OneIsTwoModel.claim(III)I -/
def pm_202 : List (List Instr) := [[.iload 1, .i2l, .goto_w (0), .goto_w (1), .invokestatic 151, .ifCond .eq 16, .aload 0, .iload 2, .invokestatic 153, .ifCond .eq 16, .iload 3, .i2l, .goto_w (1), .goto_w (9999), .invokestatic 151, .ifCond .ne 18], [.bipush (-1), .ireturn, .aload 0, .iload 2, .invokestatic 154, .ifCond .ne 24, .bipush (-4), .ireturn, .aload 0, .getfield 3074, .iconst (3), .iaload, .iconst (12), .if_icmp .ne 32, .bipush (-2), .goto 37], [.aload 0, .iload 1, .iload 2, .iload 3, .invokestatic 201, .ireturn]]
/-- OneIsTwoModel.isClaim(I)Z -/
def pm_203 : List (List Instr) := [[.iload 1, .i2l, .goto_w (0), .aload 0, .getfield 3074, .iconst (3), .iaload, .iconst (1), .isub, .i2l, .invokestatic 151, .freturn]]
/-- OneIsTwoModel.claimOf(II)I -/
def pm_204 : List (List Instr) := [[.aload 0, .iload 1, .invokestatic 203, .ifCond .eq 21, .iload 2, .i2l, .goto_w (0), .goto_w (3), .invokestatic 151, .ifCond .eq 21, .aload 0, .getfield 3074, .iconst (184), .iconst (5), .iload 1, .imul], [.iadd, .iload 2, .iadd, .iaload, .goto 22, .bipush (-1), .ireturn]]
/-- OneIsTwoModel.goesBy(I)V -/
def pm_205 : List (List Instr) := [[.aload 0, .getfield 3074, .iconst (130), .iconst (3), .iload 1, .imul, .iadd, .iaload, .istore 2, .aload 0, .getfield 3074, .iconst (130), .iconst (3), .iload 1, .imul, .iadd], [.iconst (1), .iadd, .iaload, .istore 3, .aload 0, .getfield 3138, .iload 3, .iload 2, .iconst (4), .if_icmp .ne 28, .iconst (0), .goto 40, .iload 2, .iconst (1), .if_icmp .ne 39, .aload 0], [.iload 3, .iconst (1), .invokestatic 152, .iconst (5), .if_icmp .ne 39, .iconst (2), .goto 40, .iconst (1), .iastore, .iload 2, .iconst (3), .if_icmp .ne 60, .aload 0, .getfield 3138, .aload 0, .iload 3], [.iconst (2), .invokestatic 152, .iconst (0), .iastore, .aload 0, .getfield 3138, .aload 0, .iload 3, .iconst (3), .invokestatic 152, .iconst (0), .iastore, .return_]]
/-- OneIsTwoModel.nobodyStands()V -/
def pm_206 : List (List Instr) := [[.iconst (0), .istore 1, .iload 1, .iconst (12), .if_icmp .ge 12, .aload 0, .getfield 3138, .iload 1, .iconst (0), .iastore, .iinc 1 (1), .goto 2, .return_]]
/-- OneIsTwoModel.moves(II)Z -/
def pm_207 : List (List Instr) := [[.aload 0, .getfield 3074, .iconst (130), .iconst (3), .iload 1, .imul, .iadd, .iaload, .istore 3, .aload 0, .getfield 3074, .iconst (130), .iconst (3), .iload 1, .imul, .iadd], [.iconst (1), .iadd, .iaload, .istore 4, .iload 3, .iconst (1), .if_icmp .eq 28, .iload 3, .iconst (2), .if_icmp .eq 28, .iconst (0), .freturn, .aload 0, .iload 4, .iconst (1), .invokestatic 152], [.iconst (5), .if_icmp .ne 36, .iconst (1), .goto 37, .iconst (0), .istore 5, .iload 5, .ifCond .eq 52, .aload 0, .iconst (6), .aload 0, .iload 4, .iconst (9), .invokestatic 152, .bipush (-1), .invokestatic 198], [.iconst (1), .if_icmp .ne 52, .iconst (1), .goto 53, .iconst (0), .istore 6, .iload 3, .iconst (1), .if_icmp .ne 65, .iload 5, .ifCond .eq 61, .iload 6, .ifCond .eq 63, .iconst (1), .goto 70, .iconst (0)], [.goto 70, .iload 6, .ifCond .ne 69, .iconst (1), .goto 70, .iconst (0), .istore 7, .iload 7, .ifCond .eq 85, .aload 0, .iload 4, .iconst (5), .invokestatic 152, .iload 2, .if_icmp .lt 85, .aload 0], [.iload 4, .invokestatic 172, .ifCond .ne 85, .iconst (1), .goto 86, .iconst (0), .freturn]]
/-- OneIsTwoModel.capped(J)J -/
def pm_208 : List (List Instr) := [[.lload 0, .goto_w (68719476736), .lcmp, .ifCond .le 6, .goto_w (68719476736), .goto 7, .lload 0, .lreturn]]
/-- OneIsTwoModel.sharesBy(II)V -/
def pm_209 : List (List Instr) := [[.aload 0, .getfield 3074, .iconst (130), .iconst (3), .iload 1, .imul, .iadd, .iaload, .istore 3, .aload 0, .getfield 3074, .iconst (130), .iconst (3), .iload 1, .imul, .iadd], [.iconst (1), .iadd, .iaload, .istore 4, .aload 0, .iload 4, .iconst (2), .invokestatic 152, .istore 5, .iload 3, .iconst (3), .if_icmp .ne 58, .aload 0, .iload 4, .iconst (3), .invokestatic 152], [.istore 6, .aload 0, .getfield 3142, .iload 4, .aload 0, .getfield 3142, .iload 5, .laload, .aload 0, .getfield 3142, .iload 6, .laload, .ladd, .invokestatic 208, .lastore, .aload 0], [.getfield 3142, .iload 5, .goto_w (0), .lastore, .aload 0, .getfield 3142, .iload 6, .goto_w (0), .lastore, .goto 185, .iload 3, .iconst (4), .if_icmp .ne 93, .aload 0, .getfield 3142, .iload 4], [.laload, .lstore 6, .aload 0, .getfield 3142, .iload 4, .goto_w (0), .lastore, .aload 0, .iload 4, .invokestatic 155, .ifCond .eq 92, .aload 0, .getfield 3138, .iload 5, .iaload, .iconst (1)], [.if_icmp .ne 92, .aload 0, .getfield 3142, .iload 5, .aload 0, .getfield 3142, .iload 5, .laload, .lload 6, .ladd, .invokestatic 208, .lastore, .goto 185, .aload 0, .iload 1, .aload 0], [.getfield 3074, .iconst (184), .iconst (5), .iload 2, .imul, .iadd, .iconst (3), .iadd, .iaload, .invokestatic 207, .ifCond .eq 185, .aload 0, .aload 0, .getfield 3074, .iconst (184), .iconst (5)], [.iload 2, .imul, .iadd, .iaload, .ifCond .ne 119, .iconst (0), .goto 120, .iconst (1), .iload 1, .iload 2, .invokestatic 198, .istore 6, .iload 6, .iconst (1), .if_icmp .ne 141, .aload 0], [.getfield 3142, .iload 4, .aload 0, .getfield 3142, .iload 5, .laload, .lastore, .aload 0, .getfield 3142, .iload 5, .goto_w (0), .lastore, .goto 185, .iload 6, .iconst (2), .if_icmp .ne 174], [.aload 0, .getfield 3142, .iload 5, .laload, .goto_w (4), .ldiv, .aload 0, .iload 4, .iconst (6), .invokestatic 152, .i2l, .lmul, .lstore 7, .aload 0, .getfield 3142, .iload 4], [.dup2, .laload, .lload 7, .ladd, .lastore, .aload 0, .getfield 3142, .iload 5, .dup2, .laload, .lload 7, .lsub, .lastore, .goto 185, .iload 6, .iconst (3)], [.if_icmp .ne 185, .aload 0, .getfield 3142, .iload 4, .aload 0, .getfield 3142, .iload 5, .laload, .lastore, .return_]]
/-- OneIsTwoModel.findShares(I)V -/
def pm_210 : List (List Instr) := [[.aload 0, .invokestatic 206, .iconst (0), .istore 2, .iload 2, .iconst (12), .if_icmp .ge 28, .aload 0, .getfield 3142, .iload 2, .iload 2, .aload 0, .getfield 3074, .iconst (184), .iconst (5), .iload 1], [.imul, .iadd, .iconst (1), .iadd, .iaload, .if_icmp .ne 24, .goto_w (68719476736), .goto 25, .goto_w (0), .lastore, .iinc 2 (1), .goto 4, .iconst (0), .istore 2, .iload 2, .aload 0], [.getfield 3074, .iconst (2), .iaload, .if_icmp .ge 57, .iload 2, .aload 0, .getfield 3074, .iconst (184), .iconst (5), .iload 1, .imul, .iadd, .iconst (4), .iadd, .iaload, .if_icmp .lt 52], [.aload 0, .iload 2, .iload 1, .invokestatic 209, .aload 0, .iload 2, .invokestatic 205, .iinc 2 (1), .goto 30, .return_]]
/-- OneIsTwoModel.share(III)J -/
def pm_211 : List (List Instr) := [[.aload 0, .iload 1, .invokestatic 153, .ifCond .eq 14, .aload 0, .iload 2, .invokestatic 203, .ifCond .eq 14, .iload 3, .i2l, .goto_w (0), .goto_w (1), .invokestatic 151, .ifCond .ne 16, .jsr_w (-1), .lreturn], [.aload 0, .iload 2, .invokestatic 210, .aload 0, .getfield 3142, .iload 1, .laload, .goto_w (68719476736), .iload 3, .invokestatic 158, .lreturn]]
/-- OneIsTwoModel.totalOf(II)J -/
def pm_212 : List (List Instr) := [[.goto_w (0), .lstore 3, .iconst (0), .istore 5, .iload 5, .aload 0, .getfield 3074, .iconst (3), .iaload, .if_icmp .ge 44, .aload 0, .getfield 3074, .iconst (184), .iconst (5), .iload 5, .imul], [.iadd, .iaload, .iload 2, .if_icmp .ne 42, .aload 0, .iload 5, .invokestatic 210, .lload 3, .aload 0, .getfield 3074, .iconst (184), .iconst (5), .iload 5, .imul, .iadd, .iconst (2)], [.iadd, .iaload, .i2l, .aload 0, .getfield 3142, .iload 1, .laload, .lmul, .ladd, .lstore 3, .iinc 5 (1), .goto 4, .lload 3, .lreturn]]
/-- OneIsTwoModel.total(III)J -/
def pm_213 : List (List Instr) := [[.aload 0, .iload 1, .invokestatic 153, .ifCond .eq 24, .iload 2, .i2l, .goto_w (0), .goto_w (1), .invokestatic 151, .ifCond .eq 24, .iload 3, .i2l, .goto_w (0), .goto_w (1), .invokestatic 151, .ifCond .eq 24], [.aload 0, .iload 1, .iload 2, .invokestatic 212, .goto_w (68719476736), .iload 3, .invokestatic 158, .goto 25, .jsr_w (-1), .lreturn]]
/-- OneIsTwoModel.isDeed(I)Z -/
def pm_214 : List (List Instr) := [[.iload 1, .i2l, .goto_w (0), .aload 0, .getfield 3074, .iconst (4), .iaload, .iconst (1), .isub, .i2l, .invokestatic 151, .freturn]]
/-- OneIsTwoModel.deed(I)I -/
def pm_215 : List (List Instr) := [[.aload 0, .iload 1, .invokestatic 153, .ifCond .ne 6, .bipush (-1), .ireturn, .aload 0, .iload 1, .invokestatic 154, .ifCond .ne 12, .bipush (-4), .ireturn, .aload 0, .getfield 3074, .iconst (4), .iaload], [.iconst (10), .if_icmp .ne 20, .bipush (-2), .ireturn, .aload 0, .getfield 3074, .iconst (244), .iconst (2), .aload 0, .getfield 3074, .iconst (4), .iaload, .imul, .iadd, .iload 1, .iastore], [.aload 0, .getfield 3074, .iconst (244), .iconst (2), .aload 0, .getfield 3074, .iconst (4), .iaload, .imul, .iadd, .iconst (1), .iadd, .aload 0, .getfield 3074, .iconst (0), .iaload], [.iastore, .aload 0, .getfield 3074, .iconst (4), .dup2, .iaload, .iconst (1), .iadd, .iastore, .aload 0, .getfield 3074, .iconst (4), .iaload, .iconst (1), .isub, .ireturn]]
/-- OneIsTwoModel.rememberers(I)I -/
def pm_216 : List (List Instr) := [[.iconst (0), .istore 2, .iconst (0), .istore 3, .iload 3, .aload 0, .getfield 3074, .iconst (1), .iaload, .if_icmp .ge 113, .aload 0, .iload 3, .iconst (2), .invokestatic 152, .istore 4, .iload 3], [.aload 0, .getfield 3074, .iconst (244), .iconst (2), .iload 1, .imul, .iadd, .iaload, .if_icmp .ne 27, .iconst (1), .goto 28, .iconst (0), .istore 5, .aload 0, .iload 3, .invokestatic 155], [.ifCond .eq 72, .iload 5, .ifCond .ne 67, .aload 0, .iload 3, .iconst (5), .invokestatic 152, .aload 0, .getfield 3074, .iconst (244), .iconst (2), .iload 1, .imul, .iadd, .iconst (1), .iadd], [.iaload, .if_icmp .lt 69, .iload 2, .iload 4, .ishr, .iconst (1), .iand, .iconst (1), .if_icmp .ne 69, .aload 0, .iload 3, .iconst (1), .invokestatic 152, .iconst (3), .if_icmp .ne 67, .iload 1], [.iconst (2), .irem, .ifCond .ne 69, .iconst (1), .goto 70, .iconst (0), .istore 5, .goto 101, .aload 0, .iload 3, .iconst (1), .invokestatic 152, .iconst (4), .if_icmp .ne 101, .iload 5, .ifCond .ne 97], [.iload 2, .iload 4, .ishr, .iconst (1), .iand, .iconst (1), .if_icmp .eq 97, .iload 2, .aload 0, .iload 3, .iconst (3), .invokestatic 152, .ishr, .iconst (1), .iand, .iconst (1)], [.if_icmp .ne 99, .iconst (1), .goto 100, .iconst (0), .istore 5, .iload 2, .iload 5, .ifCond .eq 108, .iconst (1), .iload 3, .ishl, .goto 109, .iconst (0), .ior, .istore 2, .iinc 3 (1)], [.goto 4, .iload 2, .ireturn]]
/-- OneIsTwoModel.remembers(II)I -/
def pm_217 : List (List Instr) := [[.aload 0, .iload 1, .invokestatic 153, .ifCond .eq 16, .aload 0, .iload 2, .invokestatic 214, .ifCond .eq 16, .aload 0, .iload 2, .invokestatic 216, .iload 1, .ishr, .iconst (1), .iand, .goto 17], [.bipush (-1), .ireturn]]
/-- OneIsTwoModel.counts(I)Z -/
def pm_218 : List (List Instr) := [[.aload 0, .iload 1, .invokestatic 154, .ifCond .eq 10, .aload 0, .iload 1, .invokestatic 172, .ifCond .ne 10, .iconst (1), .goto 11, .iconst (0), .freturn]]
/-- OneIsTwoModel.bodyOf(I)I -/
def pm_219 : List (List Instr) := [[.iload 1, .istore 2, .iload 2, .ifCond .lt 16, .aload 0, .iload 2, .iconst (0), .invokestatic 152, .iconst (6), .if_icmp .ne 16, .aload 0, .iload 2, .iconst (7), .invokestatic 152, .istore 2, .goto 2], [.iload 2, .ireturn]]
/-- OneIsTwoModel.blame(I)I -/
def pm_220 : List (List Instr) := [[.aload 0, .iload 1, .invokestatic 214, .ifCond .ne 6, .bipush (-1), .ireturn, .aload 0, .getfield 3074, .iconst (244), .iconst (2), .iload 1, .imul, .iadd, .iaload, .istore 2, .aload 0], [.iconst (2), .iload 2, .invokestatic 199, .istore 3, .iload 3, .iconst (1), .if_icmp .ne 53, .aload 0, .iload 1, .invokestatic 216, .istore 4, .iconst (0), .istore 5, .iload 5, .aload 0, .getfield 3074], [.iconst (1), .iaload, .if_icmp .ge 51, .iload 4, .aload 0, .iload 5, .invokestatic 218, .ifCond .eq 42, .bipush (-1), .goto 47, .iconst (1), .iload 5, .ishl, .bipush (-1), .ixor, .iand], [.istore 4, .iinc 5 (1), .goto 29, .iload 4, .ireturn, .iload 3, .ifCond .ne 59, .aload 0, .iload 2, .invokestatic 219, .goto 72, .aload 0, .aload 0, .iload 2, .invokestatic 171, .iconst (0)], [.invokestatic 152, .iconst (6), .if_icmp .ne 69, .bipush (-1), .goto 72, .aload 0, .iload 2, .invokestatic 171, .istore 4, .iload 4, .ifCond .ge 77, .iconst (0), .goto 80, .iconst (1), .iload 4, .ishl], [.ireturn]]
/-- OneIsTwoModel.apart(II)I -/
def pm_221 : List (List Instr) := [[.aload 0, .iload 1, .invokestatic 153, .ifCond .eq 8, .aload 0, .iload 2, .invokestatic 153, .ifCond .ne 10, .bipush (-1), .ireturn, .bipush (-9), .istore 3, .aload 0, .getfield 3074, .iconst (4), .iaload], [.iconst (1), .isub, .istore 4, .iload 4, .ifCond .lt 42, .aload 0, .iload 4, .invokestatic 216, .istore 5, .iload 5, .iload 1, .ishr, .iconst (1), .iand, .iload 5, .iload 2], [.ishr, .iconst (1), .iand, .if_icmp .eq 38, .iload 4, .goto 39, .iload 3, .istore 3, .iinc 4 (-1), .goto 19, .iload 3, .ireturn]]
/-- OneIsTwoModel.bits(I)I -/
def pm_222 : List (List Instr) := [[.iconst (0), .istore 1, .iload 0, .istore 2, .iload 2, .ifCond .eq 14, .iinc 1 (1), .iload 2, .iload 2, .iconst (1), .isub, .iand, .istore 2, .goto 4, .iload 1, .ireturn]]
/-- OneIsTwoModel.tellsApart(I)Z -/
def pm_223 : List (List Instr) := [[.iconst (1), .istore 2, .iconst (0), .istore 3, .iload 3, .aload 0, .getfield 3074, .iconst (1), .iaload, .if_icmp .ge 53, .iconst (0), .istore 4, .iload 4, .iload 3, .if_icmp .ge 51, .aload 0], [.getfield 3146, .iload 3, .iaload, .aload 0, .getfield 3146, .iload 4, .iaload, .ixor, .istore 5, .iload 2, .ifCond .eq 47, .aload 0, .iload 3, .iconst (0), .invokestatic 152, .iconst (6)], [.if_icmp .eq 45, .aload 0, .iload 4, .iconst (0), .invokestatic 152, .iconst (6), .if_icmp .eq 45, .iload 5, .ifCond .eq 45, .iload 5, .iload 1, .iand, .ifCond .eq 47, .iconst (1), .goto 48, .iconst (0)], [.istore 2, .iinc 4 (1), .goto 12, .iinc 3 (1), .goto 4, .iload 2, .freturn]]
/-- OneIsTwoModel.fewest(I)I -/
def pm_224 : List (List Instr) := [[.iload 1, .i2l, .goto_w (0), .goto_w (1), .invokestatic 151, .ifCond .ne 8, .bipush (-1), .ireturn, .iconst (0), .istore 2, .iload 2, .iconst (12), .if_icmp .ge 20, .aload 0, .getfield 3146, .iload 2], [.iconst (0), .iastore, .iinc 2 (1), .goto 10, .iconst (0), .istore 2, .iload 2, .aload 0, .getfield 3074, .iconst (4), .iaload, .if_icmp .ge 58, .aload 0, .iload 2, .invokestatic 216, .istore 3], [.iconst (0), .istore 4, .iload 4, .aload 0, .getfield 3074, .iconst (1), .iaload, .if_icmp .ge 56, .aload 0, .getfield 3146, .iload 4, .dup2, .iaload, .iload 3, .iload 4, .ishr], [.iconst (1), .iand, .iload 2, .ishl, .ior, .iastore, .iinc 4 (1), .goto 34, .iinc 2 (1), .goto 22, .iconst (1), .aload 0, .getfield 3074, .iconst (4), .iaload, .ishl], [.iconst (1), .isub, .istore 2, .iload 2, .istore 3, .iload 3, .ifCond .lt 86, .iload 3, .invokestatic 222, .iload 2, .invokestatic 222, .if_icmp .gt 82, .aload 0, .iload 3, .invokestatic 223, .ifCond .eq 82], [.iload 3, .goto 83, .iload 2, .istore 2, .iinc 3 (-1), .goto 69, .iload 1, .ifCond .ne 91, .iload 2, .invokestatic 222, .goto 92, .iload 2, .ireturn]]
/-- OneIsTwoModel.sideBy(III)I -/
def pm_225 : List (List Instr) := [[.aload 0, .getfield 3074, .iconst (130), .iconst (3), .iload 1, .imul, .iadd, .iaload, .istore 4, .aload 0, .getfield 3074, .iconst (130), .iconst (3), .iload 1, .imul, .iadd], [.iconst (1), .iadd, .iaload, .istore 5, .aload 0, .iload 5, .iconst (2), .invokestatic 152, .istore 6, .iload 4, .iconst (4), .if_icmp .ne 36, .iload 2, .iconst (1), .iload 5, .ishl], [.bipush (-1), .ixor, .iand, .ireturn, .iload 4, .iconst (3), .if_icmp .ne 66, .iconst (1), .iload 6, .ishl, .iconst (1), .aload 0, .iload 5, .iconst (3), .invokestatic 152, .ishl], [.ior, .istore 7, .iload 2, .iload 7, .iand, .ifCond .ne 56, .iload 2, .goto 65, .iload 2, .iload 7, .bipush (-1), .ixor, .iand, .iconst (1), .iload 5, .ishl], [.ior, .ireturn, .iload 6, .ifCond .lt 79, .iload 2, .iload 6, .ishr, .iconst (1), .iand, .ifCond .eq 79, .aload 0, .iload 1, .iload 3, .invokestatic 207, .ifCond .ne 81, .iload 2], [.ireturn, .aload 0, .iconst (4), .iload 1, .bipush (-1), .invokestatic 198, .istore 7, .iload 7, .iconst (1), .if_icmp .eq 93, .iload 7, .iconst (3), .if_icmp .ne 101, .iload 2, .iconst (1), .iload 6], [.ishl, .bipush (-1), .ixor, .iand, .goto 102, .iload 2, .istore 8, .iload 7, .iconst (1), .if_icmp .eq 109, .iload 7, .iconst (2), .if_icmp .ne 115, .iload 8, .iconst (1), .iload 5], [.ishl, .ior, .goto 116, .iload 8, .ireturn]]
/-- OneIsTwoModel.findSides(I)V -/
def pm_226 : List (List Instr) := [[.iconst (264), .iconst (4), .iload 1, .imul, .iadd, .istore 2, .aload 0, .iconst (1), .aload 0, .getfield 3074, .iload 2, .iaload, .ishl, .putfield 3148, .aload 0, .iconst (1)], [.aload 0, .getfield 3074, .iload 2, .iconst (1), .iadd, .iaload, .ishl, .putfield 3152, .aload 0, .getfield 3074, .iload 2, .iconst (3), .iadd, .iaload, .istore 3, .iload 3], [.aload 0, .getfield 3074, .iconst (2), .iaload, .if_icmp .ge 65, .aload 0, .aload 0, .iload 3, .aload 0, .getfield 3148, .aload 0, .getfield 3074, .iload 2, .iconst (2), .iadd, .iaload], [.invokestatic 225, .putfield 3148, .aload 0, .aload 0, .iload 3, .aload 0, .getfield 3152, .aload 0, .getfield 3074, .iload 2, .iconst (2), .iadd, .iaload, .invokestatic 225, .putfield 3152, .iinc 3 (1)], [.goto 31, .return_]]
/-- OneIsTwoModel.weddedTo(I)I -/
def pm_227 : List (List Instr) := [[.iconst (0), .istore 2, .iconst (0), .istore 3, .iload 3, .aload 0, .getfield 3074, .iconst (5), .iaload, .if_icmp .ge 45, .aload 0, .iload 3, .invokestatic 226, .iload 2, .aload 0, .getfield 3148], [.iload 1, .ishr, .iconst (1), .iand, .iconst (1), .if_icmp .ne 25, .aload 0, .getfield 3152, .goto 26, .iconst (0), .ior, .istore 2, .iload 2, .aload 0, .getfield 3152, .iload 1], [.ishr, .iconst (1), .iand, .iconst (1), .if_icmp .ne 40, .aload 0, .getfield 3148, .goto 41, .iconst (0), .ior, .istore 2, .iinc 3 (1), .goto 4, .iload 2, .iconst (1), .iload 1], [.ishl, .bipush (-1), .ixor, .iand, .ireturn]]
/-- OneIsTwoModel.wed(II)I -/
def pm_228 : List (List Instr) := [[.aload 0, .iload 1, .invokestatic 153, .ifCond .eq 11, .aload 0, .iload 2, .invokestatic 153, .ifCond .eq 11, .iload 1, .iload 2, .if_icmp .ne 13, .bipush (-1), .ireturn, .aload 0, .iload 1, .invokestatic 154], [.ifCond .eq 30, .aload 0, .iload 2, .invokestatic 154, .ifCond .eq 30, .aload 0, .iload 1, .invokestatic 227, .iload 2, .ishr, .iconst (1), .iand, .iconst (1), .if_icmp .ne 32, .bipush (-4), .ireturn], [.aload 0, .getfield 3074, .iconst (5), .iaload, .iconst (8), .if_icmp .ne 40, .bipush (-2), .ireturn, .iconst (264), .iconst (4), .aload 0, .getfield 3074, .iconst (5), .iaload, .imul, .iadd], [.istore 3, .aload 0, .getfield 3074, .iload 3, .iload 1, .iastore, .aload 0, .getfield 3074, .iload 3, .iconst (1), .iadd, .iload 2, .iastore, .aload 0, .getfield 3074, .iload 3], [.iconst (2), .iadd, .aload 0, .getfield 3074, .iconst (0), .iaload, .iastore, .aload 0, .getfield 3074, .iload 3, .iconst (3), .iadd, .aload 0, .getfield 3074, .iconst (2), .iaload], [.iastore, .aload 0, .getfield 3074, .iconst (5), .dup2, .iaload, .iconst (1), .iadd, .iastore, .aload 0, .getfield 3074, .iconst (5), .iaload, .iconst (1), .isub, .ireturn]]
/-- OneIsTwoModel.wedTo(I)I -/
def pm_229 : List (List Instr) := [[.aload 0, .iload 1, .invokestatic 153, .ifCond .eq 8, .aload 0, .iload 1, .invokestatic 227, .goto 9, .bipush (-1), .ireturn]]
/-- OneIsTwoModel.findRoot(I)V -/
def pm_230 : List (List Instr) := [[.aload 0, .iconst (0), .putfield 3156, .aload 0, .bipush (-1), .putfield 3160, .aload 0, .getfield 3074, .iconst (1), .iaload, .iconst (1), .isub, .istore 2, .iload 2, .ifCond .lt 35, .aload 0], [.iload 2, .invokestatic 171, .iload 1, .if_icmp .ne 33, .aload 0, .iload 2, .invokestatic 218, .ifCond .eq 33, .aload 0, .dup, .getfield 3156, .iconst (1), .iadd, .putfield 3156, .aload 0, .iload 2], [.putfield 3160, .iinc 2 (-1), .goto 13, .return_]]
/-- OneIsTwoModel.voteOf(I)I -/
def pm_231 : List (List Instr) := [[.aload 0, .iload 1, .invokestatic 218, .ifCond .ne 6, .iconst (0), .ireturn, .aload 0, .iconst (3), .iload 1, .invokestatic 199, .istore 2, .iload 2, .ifCond .ne 15, .iconst (1), .goto 27, .iload 2], [.iconst (2), .if_icmp .ne 20, .iconst (2), .goto 27, .iload 1, .aload 0, .getfield 3160, .if_icmp .ne 26, .iconst (1), .goto 27, .iconst (0), .ireturn]]
/-- OneIsTwoModel.votes(II)I -/
def pm_232 : List (List Instr) := [[.aload 0, .iload 1, .invokestatic 153, .ifCond .eq 10, .iload 2, .i2l, .goto_w (0), .goto_w (1), .invokestatic 151, .ifCond .ne 12, .bipush (-1), .ireturn, .aload 0, .aload 0, .iload 1, .invokestatic 171], [.invokestatic 230, .aload 0, .iload 1, .invokestatic 231, .istore 3, .iload 2, .ifCond .ne 29, .iload 3, .ifCond .le 27, .iconst (1), .goto 36, .iconst (0), .goto 36, .iload 3, .iconst (2), .if_icmp .ne 35], [.aload 0, .getfield 3156, .goto 36, .iconst (1), .ireturn]]
/-- OneIsTwoModel.rooted(I)I -/
def pm_233 : List (List Instr) := [[.aload 0, .iload 1, .invokestatic 153, .ifCond .ne 6, .bipush (-1), .ireturn, .aload 0, .iload 1, .iconst (1), .invokestatic 152, .iconst (1), .if_icmp .eq 14, .bipush (-3), .ireturn, .aload 0, .iload 1], [.invokestatic 230, .iconst (0), .istore 2, .iconst (0), .istore 3, .iconst (0), .istore 4, .iload 4, .aload 0, .getfield 3074, .iconst (1), .iaload, .if_icmp .ge 60, .aload 0, .iload 4, .invokestatic 171], [.iload 1, .if_icmp .ne 38, .aload 0, .iload 4, .invokestatic 231, .goto 39, .iconst (0), .istore 5, .iload 2, .iload 5, .iconst (1), .if_icmp .ne 46, .iconst (1), .goto 47, .iconst (0), .iadd], [.istore 2, .iload 3, .iload 5, .iconst (2), .if_icmp .ne 55, .iconst (1), .goto 56, .iconst (0), .iadd, .istore 3, .iinc 4 (1), .goto 23, .iload 3, .ifCond .ne 64, .iload 2, .goto 70], [.iload 2, .iload 3, .aload 0, .getfield 3156, .idiv, .iadd, .ireturn]]
/-- OneIsTwoModel.leaves()V -/
def pm_234 : List (List Instr) := [[.iconst (0), .istore 1, .iload 1, .iconst (546), .if_icmp .ge 15, .aload 0, .getfield 3082, .iload 1, .aload 0, .getfield 3074, .iload 1, .iaload, .iastore, .iinc 1 (1), .goto 2, .return_]]
/-- OneIsTwoModel.returns()V -/
def pm_235 : List (List Instr) := [[.iconst (0), .istore 1, .iload 1, .iconst (546), .if_icmp .ge 15, .aload 0, .getfield 3074, .iload 1, .aload 0, .getfield 3082, .iload 1, .iaload, .iastore, .iinc 1 (1), .goto 2, .return_]]
/-- OneIsTwoModel.paysBy(II)J -/
def pm_236 : List (List Instr) := [[.iload 2, .ifCond .eq 5, .iload 2, .iconst (3), .if_icmp .ne 17, .iload 2, .ifCond .eq 13, .aload 0, .getfield 3074, .iconst (2), .iaload, .iconst (18), .if_icmp .ge 15, .iconst (1), .goto 19, .iconst (0)], [.goto 19, .aload 0, .invokestatic 161, .istore 3, .iload 3, .ifCond .eq 36, .iload 2, .iconst (3), .if_icmp .le 38, .iload 2, .iconst (4), .isub, .iload 1, .if_icmp .eq 36, .aload 0, .iload 2], [.iconst (4), .isub, .invokestatic 154, .ifCond .ne 38, .jsr_w (-1), .lreturn, .iload 1, .istore 4, .iload 2, .iconst (1), .if_icmp .ne 55, .aload 0, .iload 1, .iconst (2), .iconst (2), .aload 0], [.getfield 3074, .iconst (0), .iaload, .iconst (1), .invokestatic 164, .pop, .goto 87, .iload 2, .iconst (2), .if_icmp .ne 70, .aload 0, .iload 1, .iconst (3), .iconst (1), .aload 0, .getfield 3074], [.iconst (0), .iaload, .iconst (1), .invokestatic 164, .pop, .goto 87, .iload 2, .iconst (3), .if_icmp .ne 77, .aload 0, .iload 1, .invokestatic 169, .goto 87, .iload 2, .iconst (3), .if_icmp .le 87], [.aload 0, .iload 1, .iload 2, .iconst (4), .isub, .invokestatic 167, .istore 4, .aload 0, .iload 4, .iconst (0), .invokestatic 212, .goto_w (68719476736), .ldiv, .lreturn]]
/-- OneIsTwoModel.pays(II)J -/
def pm_237 : List (List Instr) := [[.aload 0, .iload 1, .invokestatic 153, .ifCond .eq 10, .iload 2, .i2l, .goto_w (0), .goto_w (1), .invokestatic 151, .ifCond .ne 12, .jsr_w (-1), .lreturn, .aload 0, .iload 1, .invokestatic 154, .ifCond .ne 18], [.jsr_w (-4), .lreturn, .aload 0, .invokestatic 234, .aload 0, .getfield 3074, .iconst (1), .iaload, .istore 3, .iconst (0), .istore 4, .jsr_w (-1), .lstore 5, .iconst (0), .istore 7, .iload 7], [.iconst (4), .iload 3, .iadd, .if_icmp .ge 61, .aload 0, .iload 1, .iload 7, .invokestatic 236, .lstore 8, .aload 0, .invokestatic 235, .lload 8, .goto_w (0), .lcmp, .ifCond .lt 59, .lload 5], [.goto_w (0), .lcmp, .ifCond .lt 55, .lload 8, .lload 5, .lcmp, .ifCond .ge 59, .iload 7, .istore 4, .lload 8, .lstore 5, .iinc 7 (1), .goto 31, .iload 2, .ifCond .ne 66, .iload 4], [.i2l, .goto 67, .lload 5, .lreturn]]
/-- OneIsTwoModel.lender(III)J -/
def pm_238 : List (List Instr) := [[.aload 0, .iload 1, .invokestatic 153, .ifCond .eq 16, .iload 2, .i2l, .goto_w (0), .goto_w (4), .invokestatic 151, .ifCond .eq 16, .iload 3, .i2l, .goto_w (0), .goto_w (1), .invokestatic 151, .ifCond .ne 18], [.jsr_w (-1), .lreturn, .aload 0, .iload 1, .invokestatic 154, .ifCond .ne 24, .jsr_w (-4), .lreturn, .aload 0, .getfield 3074, .iconst (3), .iaload, .iconst (12), .if_icmp .eq 46, .aload 0, .getfield 3074], [.iconst (1), .iaload, .iload 2, .iadd, .iconst (12), .if_icmp .gt 46, .aload 0, .getfield 3074, .iconst (2), .iaload, .iload 2, .iadd, .iconst (18), .if_icmp .le 48, .jsr_w (-2), .lreturn], [.aload 0, .invokestatic 234, .aload 0, .iconst (0), .iload 1, .iconst (1), .invokestatic 201, .istore 4, .iconst (0), .istore 5, .iload 5, .iload 2, .if_icmp .ge 74, .aload 0, .iload 1, .iconst (2)], [.iconst (2), .aload 0, .getfield 3074, .iconst (0), .iaload, .iconst (1), .invokestatic 164, .pop, .iinc 5 (1), .goto 58, .aload 0, .iload 4, .invokestatic 210, .goto_w (0), .lstore 5, .iconst (0)], [.istore 7, .iload 7, .aload 0, .getfield 3074, .iconst (1), .iaload, .if_icmp .ge 103, .aload 0, .getfield 3142, .iload 7, .laload, .lload 5, .lcmp, .ifCond .le 99, .aload 0, .getfield 3142], [.iload 7, .laload, .goto 100, .lload 5, .lstore 5, .iinc 7 (1), .goto 81, .aload 0, .invokestatic 235, .lload 5, .goto_w (68719476736), .iload 3, .invokestatic 158, .lreturn]]
/-- OneIsTwoModel.seed(I)I -/
def pm_239 : List (List Instr) := [[.aload 0, .getfield 3074, .iconst (7), .iaload, .istore 2, .aload 0, .getfield 3074, .iconst (7), .iload 1, .iastore, .iload 2, .ireturn]]
/-- OneIsTwoModel.call()I -/
def pm_240 : List (List Instr) := [[.aload 0, .invokestatic 156, .istore 1, .iload 1, .ifCond .ne 7, .bipush (-3), .ireturn, .aload 0, .getfield 3074, .iconst (7), .aload 0, .getfield 3074, .iconst (7), .iaload, .iconst (1103515245), .imul], [.iconst (12345), .iadd, .iastore, .aload 0, .getfield 3074, .iconst (7), .iaload, .iconst (16), .iushr, .iload 1, .irem, .istore 2, .iconst (0), .istore 3, .aload 0, .iload 3], [.invokestatic 154, .ifCond .eq 36, .iload 2, .ifCond .le 48, .iload 2, .aload 0, .iload 3, .invokestatic 154, .ifCond .eq 43, .iconst (1), .goto 44, .iconst (0), .isub, .istore 2, .iinc 3 (1), .goto 30], [.iload 3, .ireturn]]
/-- OneIsTwoModel.prove(I)I -/
def pm_241 : List (List Instr) := [[.aload 0, .iload 1, .invokestatic 203, .ifCond .ne 6, .bipush (-1), .ireturn, .aload 0, .iload 1, .invokestatic 210, .aload 0, .iconst (0), .putfield 3168, .iconst (0), .istore 2, .iload 2, .aload 0], [.getfield 3074, .iconst (1), .iaload, .if_icmp .ge 76, .aload 0, .getfield 3142, .iload 2, .laload, .goto_w (0), .lcmp, .ifCond .le 74, .aload 0, .getfield 3166, .iconst (3), .aload 0, .getfield 3168], [.imul, .iload 2, .i2l, .lastore, .aload 0, .getfield 3166, .iconst (3), .aload 0, .getfield 3168, .imul, .iconst (1), .iadd, .aload 0, .getfield 3142, .iload 2, .laload], [.goto_w (68719476736), .iconst (0), .invokestatic 158, .lastore, .aload 0, .getfield 3166, .iconst (3), .aload 0, .getfield 3168, .imul, .iconst (2), .iadd, .aload 0, .getfield 3142, .iload 2, .laload], [.goto_w (68719476736), .iconst (1), .invokestatic 158, .lastore, .aload 0, .dup, .getfield 3168, .iconst (1), .iadd, .putfield 3168, .iinc 2 (1), .goto 14, .aload 0, .getfield 3168, .ireturn]]
/-- OneIsTwoModel.row(II)J -/
def pm_242 : List (List Instr) := [[.iload 1, .i2l, .goto_w (0), .aload 0, .getfield 3168, .iconst (1), .isub, .i2l, .invokestatic 151, .ifCond .eq 25, .iload 2, .i2l, .goto_w (0), .goto_w (2), .invokestatic 151, .ifCond .eq 25], [.aload 0, .getfield 3166, .iconst (3), .iload 1, .imul, .iload 2, .iadd, .laload, .goto 26, .jsr_w (-9), .lreturn]]
/-- OneIsTwoModel.alterRow(IIJ)J -/
def pm_243 : List (List Instr) := [[.iload 1, .i2l, .goto_w (0), .aload 0, .getfield 3168, .iconst (1), .isub, .i2l, .invokestatic 151, .ifCond .eq 16, .iload 2, .i2l, .goto_w (0), .goto_w (2), .invokestatic 151, .ifCond .ne 18], [.jsr_w (-9), .lreturn, .aload 0, .getfield 3166, .iconst (3), .iload 1, .imul, .iload 2, .iadd, .laload, .lstore 5, .aload 0, .getfield 3166, .iconst (3), .iload 1, .imul], [.iload 2, .iadd, .lload 3, .lastore, .lload 5, .lreturn]]
/-- OneIsTwoModel.judge(I)I -/
def pm_244 : List (List Instr) := [[.aload 0, .iload 1, .invokestatic 203, .ifCond .ne 6, .bipush (-1), .ireturn, .aload 0, .iload 1, .invokestatic 210, .iconst (0), .istore 2, .iconst (0), .istore 3, .iload 3, .aload 0, .getfield 3074], [.iconst (1), .iaload, .if_icmp .ge 83, .aload 0, .getfield 3142, .iload 3, .laload, .goto_w (0), .lcmp, .ifCond .le 81, .iload 2, .aload 0, .getfield 3168, .if_icmp .ne 32, .iconst (222), .ireturn], [.aload 0, .getfield 3166, .iconst (3), .iload 2, .imul, .laload, .iload 3, .i2l, .lcmp, .ifCond .ne 76, .aload 0, .getfield 3166, .iconst (3), .iload 2, .imul, .iconst (1)], [.iadd, .laload, .aload 0, .getfield 3142, .iload 3, .laload, .goto_w (68719476736), .iconst (0), .invokestatic 158, .lcmp, .ifCond .ne 76, .aload 0, .getfield 3166, .iconst (3), .iload 2, .imul], [.iconst (2), .iadd, .laload, .aload 0, .getfield 3142, .iload 3, .laload, .goto_w (68719476736), .iconst (1), .invokestatic 158, .lcmp, .ifCond .eq 80, .iload 2, .iconst (1), .iadd, .ireturn], [.iinc 2 (1), .iinc 3 (1), .goto 13, .iload 2, .aload 0, .getfield 3168, .if_icmp .ge 91, .iload 2, .iconst (1), .iadd, .goto 92, .iconst (0), .ireturn]]
/-- OneIsTwoModel.isOne(I)Z -/
def pm_245 : List (List Instr) := [[.iload 0, .i2l, .goto_w (0), .goto_w (3), .invokestatic 151, .freturn]]
/-- OneIsTwoModel.sheet(III)I -/
def pm_246 : List (List Instr) := [[.iload 1, .invokestatic 245, .ifCond .eq 14, .iload 2, .i2l, .jsr_w (-1), .goto_w (4), .invokestatic 151, .ifCond .eq 14, .iload 2, .ifCond .lt 16, .iload 3, .iconst (40), .if_icmp .le 16, .bipush (-1), .ireturn], [.iload 2, .ifCond .lt 22, .iload 3, .ifCond .ge 22, .bipush (-14), .ireturn, .aload 0, .getfield 3174, .iload 1, .iload 2, .iastore, .aload 0, .getfield 3178, .iload 1, .iload 2, .ifCond .ge 34], [.iconst (0), .goto 35, .iload 3, .iastore, .iconst (0), .istore 4, .iload 4, .iconst (40), .if_icmp .ge 52, .aload 0, .getfield 3182, .iconst (40), .iload 1, .imul, .iload 4, .iadd], [.iconst (0), .iastore, .iinc 4 (1), .goto 38, .iconst (1), .ireturn]]
/-- OneIsTwoModel.narrowed(II)I -/
def pm_247 : List (List Instr) := [[.iload 0, .ifCond .ne 5, .iload 1, .i2b, .goto 21, .iload 0, .iconst (1), .if_icmp .ne 11, .iload 1, .i2s, .goto 21, .iload 0, .iconst (4), .if_icmp .ne 20, .iload 1, .ifCond .ne 18], [.iconst (0), .goto 21, .iconst (1), .goto 21, .iload 1, .ireturn]]
/-- OneIsTwoModel.put(III)I -/
def pm_248 : List (List Instr) := [[.iload 1, .invokestatic 245, .ifCond .ne 5, .bipush (-1), .ireturn, .aload 0, .getfield 3174, .iload 1, .iaload, .ifCond .ge 12, .bipush (-11), .ireturn, .iload 2, .i2l, .goto_w (0), .aload 0], [.getfield 3178, .iload 1, .iaload, .iconst (1), .isub, .i2l, .invokestatic 151, .ifCond .ne 26, .bipush (-12), .ireturn, .aload 0, .getfield 3182, .iconst (40), .iload 1, .imul, .iload 2], [.iadd, .aload 0, .getfield 3174, .iload 1, .iaload, .iload 3, .invokestatic 247, .iastore, .iconst (1), .ireturn]]
/-- OneIsTwoModel.taking(II)I -/
def pm_249 : List (List Instr) := [[.aload 0, .getfield 3174, .iload 1, .iaload, .ifCond .ge 7, .bipush (-11), .goto 16, .aload 0, .getfield 3174, .iload 1, .iaload, .iload 2, .if_icmp .eq 15, .bipush (-13), .goto 16, .iconst (0)], [.ireturn]]
/-- OneIsTwoModel.item(III)I -/
def pm_250 : List (List Instr) := [[.iload 1, .invokestatic 245, .ifCond .eq 9, .iload 2, .i2l, .goto_w (0), .goto_w (4), .invokestatic 151, .ifCond .ne 11, .bipush (-1), .ireturn, .aload 0, .iload 1, .iload 2, .invokestatic 249, .istore 4], [.iload 4, .ifCond .eq 20, .iload 4, .ireturn, .iload 3, .i2l, .goto_w (0), .aload 0, .getfield 3178, .iload 1, .iaload, .iconst (1), .isub, .i2l, .invokestatic 151, .ifCond .eq 41], [.aload 0, .getfield 3182, .iconst (40), .iload 1, .imul, .iload 3, .iadd, .iaload, .goto 42, .bipush (-12), .ireturn]]
/-- OneIsTwoModel.debts(IIII)I -/
def pm_251 : List (List Instr) := [[.aload 0, .iload 1, .invokestatic 153, .ifCond .eq 13, .iload 2, .invokestatic 245, .ifCond .eq 13, .iload 4, .i2l, .goto_w (0), .goto_w (12), .invokestatic 151, .ifCond .ne 15, .bipush (-1), .ireturn, .aload 0], [.iload 2, .iconst (1), .invokestatic 249, .istore 5, .iload 5, .ifCond .eq 24, .iload 5, .ireturn, .iconst (0), .istore 6, .iconst (0), .istore 7, .iload 7, .iload 4, .if_icmp .ge 72, .iload 3], [.i2l, .iload 7, .i2l, .ladd, .lstore 8, .lload 8, .goto_w (0), .aload 0, .getfield 3178, .iload 2, .iaload, .iconst (1), .isub, .i2l, .invokestatic 151, .ifCond .ne 50], [.bipush (-12), .ireturn, .iload 6, .aload 0, .iconst (0), .iload 1, .aload 0, .getfield 3182, .iconst (40), .iload 2, .imul, .lload 8, .l2i, .iadd, .iaload, .invokestatic 202], [.ifCond .lt 67, .iconst (1), .goto 68, .iconst (0), .iadd, .istore 6, .iinc 7 (1), .goto 28, .iload 6, .ireturn]]
/-- OneIsTwoModel.shelf(III)I -/
def pm_252 : List (List Instr) := [[.iload 1, .invokestatic 245, .ifCond .eq 28, .iload 2, .i2l, .goto_w (0), .goto_w (3), .invokestatic 151, .ifCond .eq 28, .iload 2, .ifCond .ne 15, .aload 0, .iload 3, .invokestatic 153, .ifCond .eq 28, .iload 2], [.iconst (1), .if_icmp .ne 22, .aload 0, .iload 3, .invokestatic 203, .ifCond .eq 28, .iload 2, .iconst (2), .if_icmp .ne 30, .iload 3, .invokestatic 245, .ifCond .ne 30, .bipush (-1), .ireturn, .iload 2, .iconst (2)], [.if_icmp .ne 40, .aload 0, .getfield 3174, .iload 3, .iaload, .ifCond .lt 40, .iconst (1), .goto 41, .iconst (0), .istore 4, .aload 0, .getfield 3186, .iload 1, .iload 2, .iconst (2), .if_icmp .ne 52], [.iload 4, .ifCond .ne 52, .iconst (3), .goto 53, .iload 2, .iastore, .aload 0, .getfield 3190, .iload 1, .iload 4, .ifCond .eq 64, .aload 0, .getfield 3174, .iload 3, .iaload, .goto 65], [.iload 3, .iastore, .aload 0, .getfield 3194, .iload 1, .iload 4, .ifCond .eq 76, .aload 0, .getfield 3178, .iload 3, .iaload, .goto 77, .iconst (0), .iastore, .iconst (1), .ireturn]]
/-- OneIsTwoModel.takes(I)V -/
def pm_253 : List (List Instr) := [[.aload 0, .getfield 3190, .iload 1, .iaload, .istore 2, .aload 0, .bipush (-1), .putfield 3196, .aload 0, .iload 2, .putfield 3200, .aload 0, .getfield 3186, .iload 1, .iaload, .ifCond .ne 33], [.aload 0, .iload 2, .invokestatic 153, .ifCond .eq 33, .aload 0, .aload 0, .iload 2, .iconst (0), .invokestatic 152, .putfield 3196, .aload 0, .aload 0, .iload 2, .iconst (4), .invokestatic 152, .putfield 3204], [.goto 58, .aload 0, .getfield 3186, .iload 1, .iaload, .iconst (1), .if_icmp .ne 58, .aload 0, .iload 2, .invokestatic 203, .ifCond .eq 58, .aload 0, .iconst (7), .putfield 3196, .aload 0, .aload 0], [.getfield 3074, .iconst (184), .iconst (5), .iload 2, .imul, .iadd, .iconst (2), .iadd, .iaload, .putfield 3204, .return_]]
/-- OneIsTwoModel.isUnder(II)Z -/
def pm_254 : List (List Instr) := [[.iload 0, .iload 1, .if_icmp .eq 17, .iload 1, .ifCond .ne 8, .iload 0, .iconst (7), .if_icmp .lt 17, .iload 1, .iconst (2), .if_icmp .ne 19, .iload 0, .iconst (3), .if_icmp .eq 17, .iload 0, .iconst (5)], [.if_icmp .ne 19, .iconst (1), .goto 20, .iconst (0), .freturn]]
/-- OneIsTwoModel.taken(II)I -/
def pm_255 : List (List Instr) := [[.iload 1, .invokestatic 245, .ifCond .eq 15, .iload 2, .i2l, .goto_w (0), .goto_w (7), .invokestatic 151, .ifCond .ne 17, .iload 2, .i2l, .goto_w (10), .goto_w (14), .invokestatic 151, .ifCond .ne 17, .bipush (-1)], [.ireturn, .aload 0, .iload 1, .invokestatic 253, .aload 0, .getfield 3186, .iload 1, .iaload, .iconst (2), .if_icmp .ne 28, .iconst (1), .goto 29, .iconst (0), .istore 3, .iload 3, .ifCond .ne 37], [.aload 0, .getfield 3196, .ifCond .ge 37, .bipush (-11), .ireturn, .iload 2, .iconst (10), .if_icmp .lt 57, .iload 3, .ifCond .eq 55, .aload 0, .getfield 3190, .iload 1, .iaload, .iload 2, .iconst (10)], [.isub, .if_icmp .ne 55, .aload 0, .getfield 3194, .iload 1, .iaload, .goto 56, .bipush (-13), .ireturn, .iload 3, .ifCond .ne 67, .aload 0, .getfield 3196, .iload 2, .invokestatic 254, .ifCond .eq 67], [.aload 0, .getfield 3200, .goto 68, .bipush (-13), .ireturn]]
/-- OneIsTwoModel.ran(I)V -/
def pm_256 : List (List Instr) := [[.aload 0, .getfield 3212, .iconst (30), .if_icmp .ge 16, .aload 0, .getfield 3210, .aload 0, .getfield 3212, .iload 1, .iastore, .aload 0, .dup, .getfield 3212, .iconst (1), .iadd, .putfield 3212], [.return_]]
/-- OneIsTwoModel.anyBears(I)I -/
def pm_257 : List (List Instr) := [[.aload 0, .iconst (10), .invokestatic 256, .iload 1, .aload 0, .getfield 3204, .iadd, .ireturn]]
/-- OneIsTwoModel.copyBears(I)I -/
def pm_258 : List (List Instr) := [[.aload 0, .iconst (30), .invokestatic 256, .aload 0, .iload 1, .invokestatic 257, .iconst (3), .imul, .ireturn]]
/-- OneIsTwoModel.bears(I)I -/
def pm_259 : List (List Instr) := [[.aload 0, .getfield 3196, .tableswitch 25 2 7 #[3, 7, 25, 3, 25, 17], .aload 0, .iload 1, .invokestatic 258, .ireturn, .aload 0, .iconst (40), .invokestatic 256, .aload 0, .iload 1, .invokestatic 258, .aload 0, .getfield 3200, .isub], [.ireturn, .aload 0, .iconst (80), .invokestatic 256, .aload 0, .getfield 3204, .iload 1, .isub, .ireturn, .aload 0, .iload 1, .invokestatic 257, .ireturn]]
/-- OneIsTwoModel.anyKnows(I)I -/
def pm_260 : List (List Instr) := [[.aload 0, .iconst (11), .invokestatic 256, .aload 0, .iload 1, .invokestatic 259, .iconst (2), .imul, .ireturn]]
/-- OneIsTwoModel.knows(I)I -/
def pm_261 : List (List Instr) := [[.aload 0, .getfield 3196, .tableswitch 41 1 7 #[3, 41, 41, 12, 22, 41, 31], .aload 0, .iconst (20), .invokestatic 256, .aload 0, .iload 1, .invokestatic 260, .iconst (4), .isub, .ireturn, .aload 0, .iconst (60), .invokestatic 256, .aload 0], [.iload 1, .invokestatic 260, .aload 0, .getfield 3204, .ixor, .ireturn, .aload 0, .iconst (51), .invokestatic 256, .iconst (0), .aload 0, .iload 1, .invokestatic 260, .isub, .ireturn, .aload 0], [.iconst (81), .invokestatic 256, .aload 0, .iload 1, .invokestatic 259, .aload 0, .getfield 3200, .imul, .ireturn, .aload 0, .iload 1, .invokestatic 260, .ireturn]]
/-- OneIsTwoModel.anyShares(I)I -/
def pm_262 : List (List Instr) := [[.aload 0, .iconst (12), .invokestatic 256, .aload 0, .aload 0, .getfield 3204, .aload 0, .getfield 3200, .if_icmp .ne 11, .iconst (1), .goto 12, .iconst (0), .putfield 3219, .aload 0, .getfield 3216, .ifCond .eq 18], [.iconst (0), .goto 25, .iload 1, .aload 0, .getfield 3204, .aload 0, .getfield 3200, .isub, .idiv, .ireturn]]
/-- OneIsTwoModel.parts(I)I -/
def pm_263 : List (List Instr) := [[.aload 0, .getfield 3196, .lookupswitch 20 #[(5, 3), (7, 12)], .aload 0, .iconst (50), .invokestatic 256, .aload 0, .iload 1, .iconst (1), .iadd, .invokestatic 262, .ireturn, .aload 0, .iconst (82), .invokestatic 256, .iload 1], [.aload 0, .getfield 3204, .ior, .ireturn, .aload 0, .iload 1, .invokestatic 262, .ireturn]]
/-- OneIsTwoModel.anyTells(I)I -/
def pm_264 : List (List Instr) := [[.aload 0, .iconst (13), .invokestatic 256, .aload 0, .iload 1, .invokestatic 261, .aload 0, .getfield 3200, .ixor, .ireturn]]
/-- OneIsTwoModel.tells(I)I -/
def pm_265 : List (List Instr) := [[.aload 0, .getfield 3196, .tableswitch 40 2 7 #[3, 3, 40, 3, 17, 26], .aload 0, .iconst (31), .invokestatic 256, .aload 0, .iload 1, .invokestatic 264, .istore 2, .iload 2, .aload 0, .aload 0, .getfield 3200, .invokestatic 263, .iadd], [.ireturn, .aload 0, .iconst (70), .invokestatic 256, .aload 0, .iload 1, .invokestatic 264, .iconst (2), .imul, .ireturn, .aload 0, .iconst (83), .invokestatic 256, .aload 0, .iload 1, .invokestatic 261], [.istore 2, .iload 2, .aload 0, .aload 0, .getfield 3200, .invokestatic 263, .isub, .ireturn, .aload 0, .iload 1, .invokestatic 264, .ireturn]]
/-- OneIsTwoModel.act(III)I -/
def pm_266 : List (List Instr) := [[.aload 0, .iconst (0), .putfield 3212, .iload 1, .invokestatic 245, .ifCond .eq 12, .iload 2, .i2l, .goto_w (0), .goto_w (3), .invokestatic 151, .ifCond .ne 14, .iconst (0), .ireturn, .aload 0, .iload 1], [.invokestatic 253, .aload 0, .getfield 3196, .ifCond .ge 22, .iconst (0), .ireturn, .aload 0, .iconst (0), .putfield 3219, .iload 2, .ifCond .ne 31, .aload 0, .iload 3, .invokestatic 259, .goto 48, .iload 2], [.iconst (1), .if_icmp .ne 38, .aload 0, .iload 3, .invokestatic 261, .goto 48, .iload 2, .iconst (2), .if_icmp .ne 45, .aload 0, .iload 3, .invokestatic 263, .goto 48, .aload 0, .iload 3, .invokestatic 265], [.istore 4, .aload 0, .getfield 3216, .ifCond .eq 54, .bipush (-15), .goto 55, .iload 4, .ireturn]]
/-- OneIsTwoModel.trace(I)I -/
def pm_267 : List (List Instr) := [[.iload 1, .i2l, .goto_w (0), .aload 0, .getfield 3212, .iconst (1), .isub, .i2l, .invokestatic 151, .ifCond .eq 15, .aload 0, .getfield 3210, .iload 1, .iaload, .goto 16, .bipush (-3)], [.ireturn]]
/-- OneIsTwoModel.many(I)I -/
def pm_268 : List (List Instr) := [[.iload 1, .tableswitch 49 0 10 #[2, 7, 10, 15, 20, 25, 30, 35, 38, 41, 44], .aload 0, .getfield 3074, .iconst (1), .iaload, .ireturn, .aload 0, .invokestatic 156, .ireturn, .aload 0, .getfield 3074, .iconst (2), .iaload, .ireturn, .aload 0], [.getfield 3074, .iconst (3), .iaload, .ireturn, .aload 0, .getfield 3074, .iconst (4), .iaload, .ireturn, .aload 0, .getfield 3074, .iconst (5), .iaload, .ireturn, .aload 0, .getfield 3074], [.iconst (6), .iaload, .ireturn, .aload 0, .getfield 3168, .ireturn, .aload 0, .getfield 3100, .ireturn, .aload 0, .getfield 3212, .ireturn, .aload 0, .getfield 3074, .iconst (0), .iaload], [.ireturn, .bipush (-1), .ireturn]]
/-- OneIsTwoModel.keep()I -/
def pm_269 : List (List Instr) := [[.iconst (0), .istore 1, .iload 1, .iconst (546), .if_icmp .ge 15, .aload 0, .getfield 3078, .iload 1, .aload 0, .getfield 3074, .iload 1, .iaload, .iastore, .iinc 1 (1), .goto 2, .aload 0], [.iconst (1), .putfield 3087, .iconst (1), .ireturn]]
/-- OneIsTwoModel.again()I -/
def pm_270 : List (List Instr) := [[.aload 0, .getfield 3084, .ifCond .ne 5, .bipush (-3), .ireturn, .iconst (0), .istore 1, .iload 1, .iconst (546), .if_icmp .ge 20, .aload 0, .getfield 3074, .iload 1, .aload 0, .getfield 3078, .iload 1], [.iaload, .iastore, .iinc 1 (1), .goto 7, .iconst (1), .ireturn]]
/-- java/lang/Integer.bitCount(I)I -/
def pm_271 : List (List Instr) := [[.iload 0, .iload 0, .iconst (1), .iushr, .iconst (1431655765), .iand, .isub, .istore 0, .iload 0, .iconst (858993459), .iand, .iload 0, .iconst (2), .iushr, .iconst (858993459), .iand], [.iadd, .istore 0, .iload 0, .iload 0, .iconst (4), .iushr, .iadd, .iconst (252645135), .iand, .istore 0, .iload 0, .iload 0, .iconst (8), .iushr, .iadd, .istore 0], [.iload 0, .iload 0, .iconst (16), .iushr, .iadd, .istore 0, .iload 0, .iconst (63), .iand, .ireturn]]
/-- java/lang/Math.max(JJ)J -/
def pm_272 : List (List Instr) := [[.lload 0, .lload 2, .lcmp, .ifCond .lt 6, .lload 0, .goto 7, .lload 2, .lreturn]]
/-- java/lang/Math.min(JJ)J -/
def pm_273 : List (List Instr) := [[.lload 0, .lload 2, .lcmp, .ifCond .gt 6, .lload 0, .goto 7, .lload 2, .lreturn]]
/-- OneIsTwoLaw.law([I)Z -/
def pm_274 : List (List Instr) := [[.new 723, .dup, .invokespecial 91, .astore 1, .new 805, .dup, .invokespecial 150, .astore 2, .iconst (0), .istore 3, .iload 3, .aload 0, .sastore, .iconst (6), .isub, .if_icmp .gt 1184], [.aload 0, .iload 3, .saload, .iconst (63), .iand, .tableswitch 1182 0 43 #[22, 39, 46, 111, 128, 155, 172, 199, 216, 243, 294, 301, 328, 365, 392, 430, 468, 485, 512, 529, 556, 573, 600, 617, 644, 661, 689, 727, 744, 751, 768, 796, 858, 875, 912, 949, 986, 1033, 1070, 1097, 1134, 1151, 1168, 1175], .aload 1, .aload 0, .iload 3, .iconst (1), .iadd, .saload, .invokestatic 92, .aload 2, .aload 0, .iload 3], [.iconst (1), .iadd, .saload, .invokestatic 160, .if_icmp .eq 1182, .iconst (0), .freturn, .aload 1, .invokestatic 93, .aload 2, .invokestatic 163, .if_icmp .eq 1182, .iconst (0), .freturn, .aload 1, .aload 0], [.iload 3, .iconst (1), .iadd, .saload, .aload 0, .iload 3, .iconst (2), .iadd, .saload, .aload 0, .iload 3, .iconst (3), .iadd, .saload, .aload 0, .iload 3], [.iconst (4), .iadd, .saload, .aload 0, .iload 3, .iconst (5), .iadd, .saload, .ifCond .eq 75, .iconst (1), .goto 76, .iconst (0), .invokestatic 94, .aload 2, .aload 0, .iload 3], [.iconst (1), .iadd, .saload, .aload 0, .iload 3, .iconst (2), .iadd, .saload, .aload 0, .iload 3, .iconst (3), .iadd, .saload, .aload 0, .iload 3, .iconst (4)], [.iadd, .saload, .aload 0, .iload 3, .iconst (5), .iadd, .saload, .ifCond .eq 106, .iconst (1), .goto 107, .iconst (0), .invokestatic 165, .if_icmp .eq 1182, .iconst (0), .freturn, .aload 1], [.aload 0, .iload 3, .iconst (1), .iadd, .saload, .invokestatic 95, .aload 2, .aload 0, .iload 3, .iconst (1), .iadd, .saload, .invokestatic 166, .if_icmp .eq 1182, .iconst (0), .freturn], [.aload 1, .aload 0, .iload 3, .iconst (1), .iadd, .saload, .aload 0, .iload 3, .iconst (2), .iadd, .saload, .invokestatic 96, .aload 2, .aload 0, .iload 3, .iconst (1)], [.iadd, .saload, .aload 0, .iload 3, .iconst (2), .iadd, .saload, .invokestatic 168, .if_icmp .eq 1182, .iconst (0), .freturn, .aload 1, .aload 0, .iload 3, .iconst (1), .iadd], [.saload, .invokestatic 97, .aload 2, .aload 0, .iload 3, .iconst (1), .iadd, .saload, .invokestatic 170, .if_icmp .eq 1182, .iconst (0), .freturn, .aload 1, .aload 0, .iload 3, .iconst (1)], [.iadd, .saload, .aload 0, .iload 3, .iconst (2), .iadd, .saload, .invokestatic 98, .aload 2, .aload 0, .iload 3, .iconst (1), .iadd, .saload, .aload 0, .iload 3], [.iconst (2), .iadd, .saload, .invokestatic 173, .if_icmp .eq 1182, .iconst (0), .freturn, .aload 1, .aload 0, .iload 3, .iconst (1), .iadd, .saload, .invokestatic 99, .aload 2, .aload 0], [.iload 3, .iconst (1), .iadd, .saload, .invokestatic 175, .if_icmp .eq 1182, .iconst (0), .freturn, .aload 1, .aload 0, .iload 3, .iconst (1), .iadd, .saload, .aload 0, .iload 3], [.iconst (2), .iadd, .saload, .invokestatic 100, .aload 2, .aload 0, .iload 3, .iconst (1), .iadd, .saload, .aload 0, .iload 3, .iconst (2), .iadd, .saload, .invokestatic 176], [.if_icmp .eq 1182, .iconst (0), .freturn, .aload 1, .aload 0, .iload 3, .iconst (1), .iadd, .saload, .i2l, .iconst (32), .lshl, .aload 0, .iload 3, .iconst (2), .iadd], [.saload, .i2l, .goto_w (4294967295), .land, .lor, .aload 0, .iload 3, .iconst (3), .iadd, .saload, .invokestatic 101, .aload 2, .aload 0, .iload 3, .iconst (1), .iadd], [.saload, .i2l, .iconst (32), .lshl, .aload 0, .iload 3, .iconst (2), .iadd, .saload, .i2l, .goto_w (4294967295), .land, .lor, .aload 0, .iload 3, .iconst (3)], [.iadd, .saload, .invokestatic 177, .if_icmp .eq 1182, .iconst (0), .freturn, .aload 1, .invokestatic 102, .aload 2, .invokestatic 194, .if_icmp .eq 1182, .iconst (0), .freturn, .aload 1, .aload 0, .iload 3], [.iconst (1), .iadd, .saload, .aload 0, .iload 3, .iconst (2), .iadd, .saload, .invokestatic 103, .aload 2, .aload 0, .iload 3, .iconst (1), .iadd, .saload, .aload 0], [.iload 3, .iconst (2), .iadd, .saload, .invokestatic 200, .if_icmp .eq 1182, .iconst (0), .freturn, .aload 1, .aload 0, .iload 3, .iconst (1), .iadd, .saload, .aload 0, .iload 3], [.iconst (2), .iadd, .saload, .aload 0, .iload 3, .iconst (3), .iadd, .saload, .invokestatic 104, .aload 2, .aload 0, .iload 3, .iconst (1), .iadd, .saload, .aload 0], [.iload 3, .iconst (2), .iadd, .saload, .aload 0, .iload 3, .iconst (3), .iadd, .saload, .invokestatic 202, .if_icmp .eq 1182, .iconst (0), .freturn, .aload 1, .aload 0, .iload 3], [.iconst (1), .iadd, .saload, .aload 0, .iload 3, .iconst (2), .iadd, .saload, .invokestatic 105, .aload 2, .aload 0, .iload 3, .iconst (1), .iadd, .saload, .aload 0], [.iload 3, .iconst (2), .iadd, .saload, .invokestatic 204, .if_icmp .eq 1182, .iconst (0), .freturn, .aload 1, .aload 0, .iload 3, .iconst (1), .iadd, .saload, .aload 0, .iload 3], [.iconst (2), .iadd, .saload, .aload 0, .iload 3, .iconst (3), .iadd, .saload, .invokestatic 106, .aload 2, .aload 0, .iload 3, .iconst (1), .iadd, .saload, .aload 0], [.iload 3, .iconst (2), .iadd, .saload, .aload 0, .iload 3, .iconst (3), .iadd, .saload, .invokestatic 211, .lcmp, .ifCond .eq 1182, .iconst (0), .freturn, .aload 1, .aload 0], [.iload 3, .iconst (1), .iadd, .saload, .aload 0, .iload 3, .iconst (2), .iadd, .saload, .aload 0, .iload 3, .iconst (3), .iadd, .saload, .invokestatic 107, .aload 2], [.aload 0, .iload 3, .iconst (1), .iadd, .saload, .aload 0, .iload 3, .iconst (2), .iadd, .saload, .aload 0, .iload 3, .iconst (3), .iadd, .saload, .invokestatic 213], [.lcmp, .ifCond .eq 1182, .iconst (0), .freturn, .aload 1, .aload 0, .iload 3, .iconst (1), .iadd, .saload, .invokestatic 108, .aload 2, .aload 0, .iload 3, .iconst (1), .iadd], [.saload, .invokestatic 215, .if_icmp .eq 1182, .iconst (0), .freturn, .aload 1, .aload 0, .iload 3, .iconst (1), .iadd, .saload, .aload 0, .iload 3, .iconst (2), .iadd, .saload], [.invokestatic 109, .aload 2, .aload 0, .iload 3, .iconst (1), .iadd, .saload, .aload 0, .iload 3, .iconst (2), .iadd, .saload, .invokestatic 217, .if_icmp .eq 1182, .iconst (0), .freturn], [.aload 1, .aload 0, .iload 3, .iconst (1), .iadd, .saload, .invokestatic 110, .aload 2, .aload 0, .iload 3, .iconst (1), .iadd, .saload, .invokestatic 220, .if_icmp .eq 1182, .iconst (0)], [.freturn, .aload 1, .aload 0, .iload 3, .iconst (1), .iadd, .saload, .aload 0, .iload 3, .iconst (2), .iadd, .saload, .invokestatic 111, .aload 2, .aload 0, .iload 3], [.iconst (1), .iadd, .saload, .aload 0, .iload 3, .iconst (2), .iadd, .saload, .invokestatic 228, .if_icmp .eq 1182, .iconst (0), .freturn, .aload 1, .aload 0, .iload 3, .iconst (1)], [.iadd, .saload, .invokestatic 112, .aload 2, .aload 0, .iload 3, .iconst (1), .iadd, .saload, .invokestatic 229, .if_icmp .eq 1182, .iconst (0), .freturn, .aload 1, .aload 0, .iload 3], [.iconst (1), .iadd, .saload, .aload 0, .iload 3, .iconst (2), .iadd, .saload, .invokestatic 113, .aload 2, .aload 0, .iload 3, .iconst (1), .iadd, .saload, .aload 0], [.iload 3, .iconst (2), .iadd, .saload, .invokestatic 232, .if_icmp .eq 1182, .iconst (0), .freturn, .aload 1, .aload 0, .iload 3, .iconst (1), .iadd, .saload, .invokestatic 114, .aload 2], [.aload 0, .iload 3, .iconst (1), .iadd, .saload, .invokestatic 233, .if_icmp .eq 1182, .iconst (0), .freturn, .aload 1, .aload 0, .iload 3, .iconst (1), .iadd, .saload, .aload 0], [.iload 3, .iconst (2), .iadd, .saload, .invokestatic 115, .aload 2, .aload 0, .iload 3, .iconst (1), .iadd, .saload, .aload 0, .iload 3, .iconst (2), .iadd, .saload], [.invokestatic 221, .if_icmp .eq 1182, .iconst (0), .freturn, .aload 1, .aload 0, .iload 3, .iconst (1), .iadd, .saload, .invokestatic 116, .aload 2, .aload 0, .iload 3, .iconst (1), .iadd], [.saload, .invokestatic 224, .if_icmp .eq 1182, .iconst (0), .freturn, .aload 1, .aload 0, .iload 3, .iconst (1), .iadd, .saload, .aload 0, .iload 3, .iconst (2), .iadd, .saload], [.invokestatic 117, .aload 2, .aload 0, .iload 3, .iconst (1), .iadd, .saload, .aload 0, .iload 3, .iconst (2), .iadd, .saload, .invokestatic 237, .lcmp, .ifCond .eq 1182, .iconst (0)], [.freturn, .aload 1, .aload 0, .iload 3, .iconst (1), .iadd, .saload, .aload 0, .iload 3, .iconst (2), .iadd, .saload, .aload 0, .iload 3, .iconst (3), .iadd], [.saload, .invokestatic 119, .aload 2, .aload 0, .iload 3, .iconst (1), .iadd, .saload, .aload 0, .iload 3, .iconst (2), .iadd, .saload, .aload 0, .iload 3, .iconst (3)], [.iadd, .saload, .invokestatic 238, .lcmp, .ifCond .eq 1182, .iconst (0), .freturn, .aload 1, .aload 0, .iload 3, .iconst (1), .iadd, .saload, .invokestatic 120, .aload 2, .aload 0], [.iload 3, .iconst (1), .iadd, .saload, .invokestatic 239, .if_icmp .eq 1182, .iconst (0), .freturn, .aload 1, .invokestatic 121, .aload 2, .invokestatic 240, .if_icmp .eq 1182, .iconst (0), .freturn, .aload 1], [.aload 0, .iload 3, .iconst (1), .iadd, .saload, .invokestatic 122, .aload 2, .aload 0, .iload 3, .iconst (1), .iadd, .saload, .invokestatic 241, .if_icmp .eq 1182, .iconst (0), .freturn], [.aload 1, .aload 0, .iload 3, .iconst (1), .iadd, .saload, .aload 0, .iload 3, .iconst (2), .iadd, .saload, .invokestatic 123, .aload 2, .aload 0, .iload 3, .iconst (1)], [.iadd, .saload, .aload 0, .iload 3, .iconst (2), .iadd, .saload, .invokestatic 242, .lcmp, .ifCond .eq 1182, .iconst (0), .freturn, .aload 1, .aload 0, .iload 3, .iconst (1)], [.iadd, .saload, .aload 0, .iload 3, .iconst (2), .iadd, .saload, .aload 0, .iload 3, .iconst (3), .iadd, .saload, .i2l, .iconst (32), .lshl, .aload 0], [.iload 3, .iconst (4), .iadd, .saload, .i2l, .goto_w (4294967295), .land, .lor, .invokestatic 124, .aload 2, .aload 0, .iload 3, .iconst (1), .iadd, .saload, .aload 0], [.iload 3, .iconst (2), .iadd, .saload, .aload 0, .iload 3, .iconst (3), .iadd, .saload, .i2l, .iconst (32), .lshl, .aload 0, .iload 3, .iconst (4), .iadd], [.saload, .i2l, .goto_w (4294967295), .land, .lor, .invokestatic 243, .lcmp, .ifCond .eq 1182, .iconst (0), .freturn, .aload 1, .aload 0, .iload 3, .iconst (1), .iadd, .saload], [.invokestatic 125, .aload 2, .aload 0, .iload 3, .iconst (1), .iadd, .saload, .invokestatic 244, .if_icmp .eq 1182, .iconst (0), .freturn, .aload 1, .aload 0, .iload 3, .iconst (1), .iadd], [.saload, .aload 0, .iload 3, .iconst (2), .iadd, .saload, .aload 0, .iload 3, .iconst (3), .iadd, .saload, .invokestatic 128, .aload 2, .aload 0, .iload 3, .iconst (1)], [.iadd, .saload, .aload 0, .iload 3, .iconst (2), .iadd, .saload, .aload 0, .iload 3, .iconst (3), .iadd, .saload, .invokestatic 246, .if_icmp .eq 1182, .iconst (0), .freturn], [.aload 1, .aload 0, .iload 3, .iconst (1), .iadd, .saload, .aload 0, .iload 3, .iconst (2), .iadd, .saload, .aload 0, .iload 3, .iconst (3), .iadd, .saload], [.invokestatic 129, .aload 2, .aload 0, .iload 3, .iconst (1), .iadd, .saload, .aload 0, .iload 3, .iconst (2), .iadd, .saload, .aload 0, .iload 3, .iconst (3), .iadd], [.saload, .invokestatic 248, .if_icmp .eq 1182, .iconst (0), .freturn, .aload 1, .aload 0, .iload 3, .iconst (1), .iadd, .saload, .aload 0, .iload 3, .iconst (2), .iadd, .saload], [.aload 0, .iload 3, .iconst (3), .iadd, .saload, .invokestatic 130, .aload 2, .aload 0, .iload 3, .iconst (1), .iadd, .saload, .aload 0, .iload 3, .iconst (2), .iadd], [.saload, .aload 0, .iload 3, .iconst (3), .iadd, .saload, .invokestatic 250, .if_icmp .eq 1182, .iconst (0), .freturn, .aload 1, .aload 0, .iload 3, .iconst (1), .iadd, .saload], [.aload 0, .iload 3, .iconst (2), .iadd, .saload, .aload 0, .iload 3, .iconst (3), .iadd, .saload, .aload 0, .iload 3, .iconst (4), .iadd, .saload, .invokestatic 131], [.aload 2, .aload 0, .iload 3, .iconst (1), .iadd, .saload, .aload 0, .iload 3, .iconst (2), .iadd, .saload, .aload 0, .iload 3, .iconst (3), .iadd, .saload], [.aload 0, .iload 3, .iconst (4), .iadd, .saload, .invokestatic 251, .if_icmp .eq 1182, .iconst (0), .freturn, .aload 1, .aload 0, .iload 3, .iconst (1), .iadd, .saload, .aload 0], [.iload 3, .iconst (2), .iadd, .saload, .aload 0, .iload 3, .iconst (3), .iadd, .saload, .invokestatic 132, .aload 2, .aload 0, .iload 3, .iconst (1), .iadd, .saload], [.aload 0, .iload 3, .iconst (2), .iadd, .saload, .aload 0, .iload 3, .iconst (3), .iadd, .saload, .invokestatic 252, .if_icmp .eq 1182, .iconst (0), .freturn, .aload 1, .aload 0], [.iload 3, .iconst (1), .iadd, .saload, .aload 0, .iload 3, .iconst (2), .iadd, .saload, .invokestatic 133, .aload 2, .aload 0, .iload 3, .iconst (1), .iadd, .saload], [.aload 0, .iload 3, .iconst (2), .iadd, .saload, .invokestatic 255, .if_icmp .eq 1182, .iconst (0), .freturn, .aload 1, .aload 0, .iload 3, .iconst (1), .iadd, .saload, .aload 0], [.iload 3, .iconst (2), .iadd, .saload, .aload 0, .iload 3, .iconst (3), .iadd, .saload, .invokestatic 134, .aload 2, .aload 0, .iload 3, .iconst (1), .iadd, .saload], [.aload 0, .iload 3, .iconst (2), .iadd, .saload, .aload 0, .iload 3, .iconst (3), .iadd, .saload, .invokestatic 266, .if_icmp .eq 1182, .iconst (0), .freturn, .aload 1, .aload 0], [.iload 3, .iconst (1), .iadd, .saload, .invokestatic 135, .aload 2, .aload 0, .iload 3, .iconst (1), .iadd, .saload, .invokestatic 267, .if_icmp .eq 1182, .iconst (0), .freturn, .aload 1], [.aload 0, .iload 3, .iconst (1), .iadd, .saload, .invokestatic 136, .aload 2, .aload 0, .iload 3, .iconst (1), .iadd, .saload, .invokestatic 268, .if_icmp .eq 1182, .iconst (0), .freturn], [.aload 1, .invokestatic 137, .aload 2, .invokestatic 269, .if_icmp .eq 1182, .iconst (0), .freturn, .aload 1, .invokestatic 138, .aload 2, .invokestatic 270, .if_icmp .eq 1182, .iconst (0), .freturn, .iinc 3 (6), .goto 10], [.iconst (1), .freturn]]
def pg_m_0 : List (List (List Instr)) := [pm_0, pm_1, pm_2, pm_3, pm_4, pm_5, pm_6, pm_7, pm_8, pm_9, pm_10, pm_11, pm_12, pm_13, pm_14, pm_15]
def pg_m_1 : List (List (List Instr)) := [pm_16, pm_17, pm_18, pm_19, pm_20, pm_21, pm_22, pm_23, pm_24, pm_25, pm_26, pm_27, pm_28, pm_29, pm_30, pm_31]
def pg_m_2 : List (List (List Instr)) := [pm_32, pm_33, pm_34, pm_35, pm_36, pm_37, pm_38, pm_39, pm_40, pm_41, pm_42, pm_43, pm_44, pm_45, pm_46, pm_47]
def pg_m_3 : List (List (List Instr)) := [pm_48, pm_49, pm_50, pm_51, pm_52, pm_53, pm_54, pm_55, pm_56, pm_57, pm_58, pm_59, pm_60, pm_61, pm_62, pm_63]
def pg_m_4 : List (List (List Instr)) := [pm_64, pm_65, pm_66, pm_67, pm_68, pm_69, pm_70, pm_71, pm_72, pm_73, pm_74, pm_75, pm_76, pm_77, pm_78, pm_79]
def pg_m_5 : List (List (List Instr)) := [pm_80, pm_81, pm_82, pm_83, pm_84, pm_85, pm_86, pm_87, pm_88, pm_89, pm_90, pm_91, pm_92, pm_93, pm_94, pm_95]
def pg_m_6 : List (List (List Instr)) := [pm_96, pm_97, pm_98, pm_99, pm_100, pm_101, pm_102, pm_103, pm_104, pm_105, pm_106, pm_107, pm_108, pm_109, pm_110, pm_111]
def pg_m_7 : List (List (List Instr)) := [pm_112, pm_113, pm_114, pm_115, pm_116, pm_117, pm_118, pm_119, pm_120, pm_121, pm_122, pm_123, pm_124, pm_125, pm_126, pm_127]
def pg_m_8 : List (List (List Instr)) := [pm_128, pm_129, pm_130, pm_131, pm_132, pm_133, pm_134, pm_135, pm_136, pm_137, pm_138, pm_139, pm_140, pm_141, pm_142, pm_143]
def pg_m_9 : List (List (List Instr)) := [pm_144, pm_145, pm_146, pm_147, pm_148, pm_149, pm_150, pm_151, pm_152, pm_153, pm_154, pm_155, pm_156, pm_157, pm_158, pm_159]
def pg_m_10 : List (List (List Instr)) := [pm_160, pm_161, pm_162, pm_163, pm_164, pm_165, pm_166, pm_167, pm_168, pm_169, pm_170, pm_171, pm_172, pm_173, pm_174, pm_175]
def pg_m_11 : List (List (List Instr)) := [pm_176, pm_177, pm_178, pm_179, pm_180, pm_181, pm_182, pm_183, pm_184, pm_185, pm_186, pm_187, pm_188, pm_189, pm_190, pm_191]
def pg_m_12 : List (List (List Instr)) := [pm_192, pm_193, pm_194, pm_195, pm_196, pm_197, pm_198, pm_199, pm_200, pm_201, pm_202, pm_203, pm_204, pm_205, pm_206, pm_207]
def pg_m_13 : List (List (List Instr)) := [pm_208, pm_209, pm_210, pm_211, pm_212, pm_213, pm_214, pm_215, pm_216, pm_217, pm_218, pm_219, pm_220, pm_221, pm_222, pm_223]
def pg_m_14 : List (List (List Instr)) := [pm_224, pm_225, pm_226, pm_227, pm_228, pm_229, pm_230, pm_231, pm_232, pm_233, pm_234, pm_235, pm_236, pm_237, pm_238, pm_239]
def pg_m_15 : List (List (List Instr)) := [pm_240, pm_241, pm_242, pm_243, pm_244, pm_245, pm_246, pm_247, pm_248, pm_249, pm_250, pm_251, pm_252, pm_253, pm_254, pm_255]
def pg_m_16 : List (List (List Instr)) := [pm_256, pm_257, pm_258, pm_259, pm_260, pm_261, pm_262, pm_263, pm_264, pm_265, pm_266, pm_267, pm_268, pm_269, pm_270, pm_271]
def pg_m_17 : List (List (List Instr)) := [pm_272, pm_273, pm_274]
def pg_m : Nat → List (List Instr) := fun m => pg_at [] (pg_at [] [pg_m_0, pg_m_1, pg_m_2, pg_m_3, pg_m_4, pg_m_5, pg_m_6, pg_m_7, pg_m_8, pg_m_9, pg_m_10, pg_m_11, pg_m_12, pg_m_13, pg_m_14, pg_m_15, pg_m_16, pg_m_17] (m / 16)) (m % 16)
def pg_cd (m i : Nat) : Instr := pg_at .nop (pg_at [] (pg_m m) (i / 16)) (i % 16)
def pg_sg_0 : List (Nat × Nat) := [(1, 0), (1, 0), (6, 1), (4, 1), (2, 1), (1, 0), (6, 0), (1, 0), (4, 0), (1, 0), (1, 3), (1, 0), (2, 0), (3, 0), (2, 0), (3, 1)]
def pg_sg_1 : List (Nat × Nat) := [(3, 1), (2, 1), (2, 0), (2, 0), (1, 1), (1, 1), (2, 1), (2, 1), (2, 1), (1, 1), (1, 1), (1, 0), (1, 0), (2, 1), (2, 1), (1, 1)]
def pg_sg_2 : List (Nat × Nat) := [(1, 1), (2, 0), (2, 2), (3, 2), (2, 1), (2, 0), (3, 0), (3, 0), (2, 0), (1, 0), (2, 1), (3, 1), (1, 1), (1, 1), (3, 1), (2, 1)]
def pg_sg_3 : List (Nat × Nat) := [(2, 1), (2, 1), (2, 1), (2, 1), (2, 1), (2, 1), (1, 0), (3, 0), (2, 0), (2, 0), (2, 1), (3, 1), (3, 1), (1, 0), (5, 0), (1, 0)]
def pg_sg_4 : List (Nat × Nat) := [(2, 0), (2, 1), (2, 1), (2, 1), (2, 1), (2, 1), (1, 1), (1, 1), (1, 1), (1, 1), (6, 1), (3, 1), (2, 1), (2, 1), (3, 1), (3, 0)]
def pg_sg_5 : List (Nat × Nat) := [(3, 0), (4, 1), (2, 1), (3, 1), (2, 0), (2, 0), (6, 1), (3, 1), (3, 1), (2, 1), (2, 1), (1, 0), (2, 1), (1, 1), (6, 1), (2, 1)]
def pg_sg_6 : List (Nat × Nat) := [(3, 1), (2, 1), (3, 1), (2, 1), (3, 1), (3, 1), (1, 1), (3, 1), (4, 1), (3, 1), (4, 2), (4, 2), (2, 1), (3, 1), (2, 1), (3, 1)]
def pg_sg_7 : List (Nat × Nat) := [(2, 1), (3, 1), (2, 1), (3, 1), (2, 1), (3, 2), (3, 1), (4, 2), (2, 1), (1, 1), (2, 1), (3, 2), (4, 2), (2, 1), (3, 1), (3, 1)]
def pg_sg_8 : List (Nat × Nat) := [(4, 1), (4, 1), (4, 1), (5, 1), (4, 1), (3, 1), (4, 1), (2, 1), (2, 1), (1, 1), (1, 1), (4, 1), (3, 1), (2, 1), (2, 1), (2, 1)]
def pg_sg_9 : List (Nat × Nat) := [(2, 1), (1, 1), (1, 1), (1, 1), (1, 1), (1, 1), (1, 0), (3, 1), (3, 1), (2, 1), (2, 1), (2, 1), (1, 1), (2, 2), (3, 2), (3, 0)]
def pg_sg_10 : List (Nat × Nat) := [(2, 1), (1, 1), (5, 1), (1, 1), (6, 1), (6, 1), (2, 1), (3, 1), (3, 1), (2, 0), (2, 1), (2, 1), (2, 1), (3, 1), (2, 1), (2, 1)]
def pg_sg_11 : List (Nat × Nat) := [(3, 1), (3, 1), (2, 1), (1, 1), (1, 1), (1, 0), (2, 0), (2, 0), (3, 1), (7, 1), (1, 1), (2, 1), (1, 1), (1, 0), (1, 0), (1, 0)]
def pg_sg_12 : List (Nat × Nat) := [(1, 0), (1, 0), (1, 1), (3, 1), (2, 1), (2, 1), (4, 1), (3, 1), (3, 1), (4, 1), (4, 1), (2, 1), (3, 1), (2, 0), (1, 0), (3, 1)]
def pg_sg_13 : List (Nat × Nat) := [(1, 2), (3, 0), (2, 0), (4, 2), (3, 2), (4, 2), (2, 1), (2, 1), (2, 1), (3, 1), (2, 1), (2, 1), (2, 1), (3, 1), (1, 1), (2, 1)]
def pg_sg_14 : List (Nat × Nat) := [(2, 1), (4, 1), (2, 0), (2, 1), (3, 1), (2, 1), (2, 0), (2, 1), (3, 1), (2, 1), (1, 0), (1, 0), (3, 2), (3, 2), (4, 2), (2, 1)]
def pg_sg_15 : List (Nat × Nat) := [(1, 1), (2, 1), (3, 2), (4, 2), (2, 1), (1, 1), (4, 1), (2, 1), (4, 1), (3, 1), (4, 1), (5, 1), (4, 1), (2, 0), (2, 1), (3, 1)]
def pg_sg_16 : List (Nat × Nat) := [(2, 0), (2, 1), (2, 1), (2, 1), (2, 1), (2, 1), (2, 1), (2, 1), (2, 1), (2, 1), (4, 1), (2, 1), (2, 1), (1, 1), (1, 1), (1, 1)]
def pg_sg_17 : List (Nat × Nat) := [(2, 2), (2, 2), (1, 1)]
def pg_sg : Nat → Nat × Nat := fun m => pg_at (0, 0) (pg_at [] [pg_sg_0, pg_sg_1, pg_sg_2, pg_sg_3, pg_sg_4, pg_sg_5, pg_sg_6, pg_sg_7, pg_sg_8, pg_sg_9, pg_sg_10, pg_sg_11, pg_sg_12, pg_sg_13, pg_sg_14, pg_sg_15, pg_sg_16, pg_sg_17] (m / 16)) (m % 16)
def pg_mx_0 : List (Nat) := [1, 1, 8, 5, 2, 1, 6, 1, 4, 1, 1, 1, 3, 3, 2, 4]
def pg_mx_1 : List (Nat) := [7, 5, 2, 2, 1, 3, 3, 3, 4, 4, 2, 1, 1, 2, 6, 1]
def pg_mx_2 : List (Nat) := [1, 2, 8, 6, 3, 6, 3, 6, 2, 5, 4, 4, 7, 4, 4, 3]
def pg_mx_3 : List (Nat) := [4, 2, 4, 2, 6, 7, 1, 3, 2, 2, 7, 8, 5, 1, 5, 2]
def pg_mx_4 : List (Nat) := [4, 2, 2, 2, 2, 2, 3, 1, 1, 1, 8, 4, 2, 2, 4, 3]
def pg_mx_5 : List (Nat) := [3, 4, 2, 3, 3, 3, 7, 3, 4, 4, 4, 2, 2, 1, 6, 2]
def pg_mx_6 : List (Nat) := [3, 2, 4, 4, 5, 5, 2, 3, 4, 4, 4, 4, 2, 3, 2, 3]
def pg_mx_7 : List (Nat) := [2, 4, 2, 3, 3, 10, 4, 8, 3, 4, 3, 3, 7, 4, 3, 3]
def pg_mx_8 : List (Nat) := [5, 4, 4, 7, 4, 5, 7, 2, 2, 1, 1, 4, 3, 3, 2, 2]
def pg_mx_9 : List (Nat) := [2, 1, 1, 1, 1, 1, 1, 6, 3, 2, 2, 2, 3, 10, 7, 4]
def pg_mx_10 : List (Nat) := [2, 1, 7, 1, 8, 6, 2, 4, 3, 2, 2, 3, 2, 3, 4, 4]
def pg_mx_11 : List (Nat) := [6, 5, 2, 1, 1, 3, 2, 2, 3, 8, 1, 2, 1, 3, 3, 1]
def pg_mx_12 : List (Nat) := [1, 6, 2, 3, 6, 3, 7, 3, 3, 5, 4, 2, 3, 4, 2, 8]
def pg_mx_13 : List (Nat) := [2, 9, 3, 4, 6, 4, 2, 2, 6, 3, 2, 3, 6, 6, 3, 6]
def pg_mx_14 : List (Nat) := [5, 9, 4, 4, 4, 2, 3, 3, 4, 6, 2, 2, 5, 10, 8, 3]
def pg_mx_15 : List (Nat) := [4, 3, 3, 7, 4, 1, 5, 2, 4, 3, 5, 10, 5, 3, 2, 4]
def pg_mx_16 : List (Nat) := [2, 2, 2, 2, 2, 2, 2, 2, 2, 3, 5, 2, 2, 2, 2, 1]
def pg_mx_17 : List (Nat) := [4, 4, 4]
def pg_mx : Nat → Nat := fun m => pg_at 0 (pg_at [] [pg_mx_0, pg_mx_1, pg_mx_2, pg_mx_3, pg_mx_4, pg_mx_5, pg_mx_6, pg_mx_7, pg_mx_8, pg_mx_9, pg_mx_10, pg_mx_11, pg_mx_12, pg_mx_13, pg_mx_14, pg_mx_15, pg_mx_16, pg_mx_17] (m / 16)) (m % 16)
/-- the cuts of a method: places, with the locals that are dead there -/
def pg_cs_0 : List (List (Nat × List Nat)) := [[], [], [], [(23, [4])], [], [], [], [], [], [], [], [], [], [], [], [(5, [])]]
def pg_cs_1 : List (List (Nat × List Nat)) := [[(7, [5, 6])], [(28, [1, 4])], [], [], [], [(31, [2]), (50, [])], [(8, [])], [(8, [])], [(4, []), (22, [3]), (53, [1, 3])], [], [], [(4, []), (46, [])], [(3, [])], [], [(6, [5])], []]
def pg_cs_2 : List (List (Nat × List Nat)) := [[], [], [(6, [0, 1])], [(4, [])], [(2, [1])], [(8, [4, 5]), (29, [4, 5])], [], [], [], [(2, [2, 3, 4]), (56, [2])], [(4, [])], [(4, [])], [(21, [6])], [(4, [3]), (11, [])], [(2, [])], []]
def pg_cs_3 : List (List (Nat × List Nat)) := [[(4, [1])], [], [(6, [])], [], [(17, [])], [(8, [6])], [], [], [], [], [(4, [4, 5, 6])], [(7, [2, 5, 6, 7])], [], [], [], [(40, []), (56, []), (72, []), (88, [])]]
def pg_cs_4 : List (List (Nat × List Nat)) := [[(30, [3]), (47, [3]), (71, [3]), (99, [3])], [], [], [], [], [], [(4, [])], [], [], [], [], [], [], [], [], []]
def pg_cs_5 : List (List (Nat × List Nat)) := [[], [], [], [], [(6, [1])], [], [], [], [(25, [0, 1])], [(4, [1])], [(6, [1])], [(89, []), (103, [])], [], [], [(21, [])], []]
def pg_cs_6 : List (List (Nat × List Nat)) := [[], [], [(42, [0, 1, 2, 3])], [(11, [])], [(28, [0, 1, 2])], [(20, [])], [(10, [])], [], [], [], [], [], [], [], [], []]
def pg_cs_7 : List (List (Nat × List Nat)) := [[], [], [], [], [], [(31, [7, 8, 9])], [], [(40, [6, 7]), (66, [1, 2, 4])], [], [(28, [1])], [(16, [1])], [], [], [(18, [1])], [], []]
def pg_cs_8 : List (List (Nat × List Nat)) := [[(34, [])], [], [], [(35, [])], [], [(11, [3, 4]), (14, [0, 1, 2, 3, 4]), (47, [2, 3, 4])], [], [], [], [], [], [], [], [], [], []]
def pg_cs_9 : List (List (Nat × List Nat)) := [[], [], [], [], [], [], [], [], [], [], [], [], [(4, [])], [(11, [0, 1, 2, 3, 8, 9])], [], []]
def pg_cs_10 : List (List (Nat × List Nat)) := [[], [], [], [], [], [(13, []), (22, [])], [], [], [], [], [], [(2, [1])], [], [(10, [0, 1, 2]), (56, [0, 1, 2])], [(6, [1])], [(10, [])]]
def pg_cs_11 : List (List (Nat × List Nat)) := [[(22, [1, 2])], [(18, [])], [], [], [], [(4, [1, 2]), (43, [])], [], [], [], [(17, [7]), (57, [0, 1, 2, 3, 4, 5, 6, 7])], [], [(47, [0, 1]), (82, [0, 1]), (117, [0, 1]), (163, [0, 1]), (187, [0, 1]), (211, [0, 1])], [], [(15, [])], [(2, [2]), (42, [2]), (61, [2]), (86, []), (89, []), (97, [2])], [(2, [])]]
def pg_cs_12 : List (List (Nat × List Nat)) := [[(2, [])], [(25, [3, 4, 5]), (32, [4, 5]), (48, [4, 5]), (56, [5]), (66, [5]), (97, [1, 3, 4])], [(17, [1]), (53, []), (78, [])], [], [(15, [1, 5])], [(7, [])], [(56, [2]), (73, [2, 6]), (86, [2, 4, 5, 6]), (104, [2, 4, 5, 6])], [], [], [], [], [], [], [], [(2, [])], [(37, [1, 5, 6, 7]), (53, [1, 6, 7]), (70, [1, 3, 5, 6, 7])]]
def pg_cs_13 : List (List (Nat × List Nat)) := [[], [(120, [3, 6, 7, 8])], [(4, []), (30, [])], [], [(4, [])], [], [], [], [(4, [4, 5]), (28, [5]), (70, [4, 5]), (101, [4])], [], [], [(2, [1])], [(29, [1, 2, 3])], [(19, [5])], [(4, [0])], [(4, [4, 5]), (12, [5])]]
def pg_cs_14 : List (List (Nat × List Nat)) := [[(10, [3, 4]), (22, [3, 4]), (34, []), (69, [4])], [(93, [0, 1, 3, 4, 8]), (109, [0, 1, 2, 3, 4, 6, 7])], [(31, [1])], [(4, [])], [], [], [(13, [])], [], [], [(23, [5])], [(2, [])], [(2, [])], [(19, [3, 4]), (38, [3, 4]), (87, [1, 2, 3])], [(31, [8, 9])], [(58, [6, 7]), (81, [1, 2, 4])], []]
def pg_cs_15 : List (List (Nat × List Nat)) := [[(30, [1])], [(14, [1])], [], [], [(13, [1])], [], [(22, [4]), (38, [2, 3])], [], [], [], [], [(28, [5, 8, 9])], [(22, [4]), (30, [4]), (41, [4]), (53, [2]), (65, [2])], [], [], [(29, [3]), (37, [])]]
def pg_cs_16 : List (List (Nat × List Nat)) := [[], [], [], [], [], [], [], [], [], [], [(48, [1, 2, 3, 4])], [], [], [(2, [])], [(7, [])], []]
def pg_cs_17 : List (List (Nat × List Nat)) := [[], [], [(10, []), (76, []), (1182, [])]]
def pg_cs : Nat → List (Nat × List Nat) := fun m => pg_at [] (pg_at [] [pg_cs_0, pg_cs_1, pg_cs_2, pg_cs_3, pg_cs_4, pg_cs_5, pg_cs_6, pg_cs_7, pg_cs_8, pg_cs_9, pg_cs_10, pg_cs_11, pg_cs_12, pg_cs_13, pg_cs_14, pg_cs_15, pg_cs_16, pg_cs_17] (m / 16)) (m % 16)
def pg_fd (i : Nat) : List (Nat × List Nat) → Option (List Nat)
  | [] => none
  | q :: l => match Nat.beq i q.1 with
    | true => some q.2
    | false => pg_fd i l
def pg_ct (m i : Nat) : Option (List Nat) := pg_fd i (pg_cs m)
/-! ===== END by program ===== -/
end
section
/-! ===== THE SMALL MACHINE: one method's body at a time over numbered cells; a call is a function f (method, arguments, state) ===== -/
/-- cells, slots in all; of a cell its kind, its length; its references, ints, longs by place -/
abbrev am_S : Type := Nat × Nat × (Nat → Nat) × (Nat → Nat) × (Nat → Nat → Option Nat) × (Nat → Nat → Int32) × (Nat → Nat → Int64)
abbrev am_R : Type := Option (Option Value × am_S)
def am_n (S : am_S) : Nat := S.1
def am_w (S : am_S) : Nat := S.2.1
def am_c (S : am_S) : Nat → Nat := S.2.2.1
def am_l (S : am_S) : Nat → Nat := S.2.2.2.1
def am_r (S : am_S) : Nat → Nat → Option Nat := S.2.2.2.2.1
def am_i (S : am_S) : Nat → Nat → Int32 := S.2.2.2.2.2.1
def am_j (S : am_S) : Nat → Nat → Int64 := S.2.2.2.2.2.2
def am_up {α : Type} (f : Nat → α) (k : Nat) (v : α) : Nat → α := fun j => if j = k then v else f j
def am_wi (S : am_S) (a : Nat) (g : Nat → Int32) : am_S := (am_n S, am_w S, am_c S, am_l S, am_r S, am_up (am_i S) a g, am_j S)
def am_wj (S : am_S) (a : Nat) (g : Nat → Int64) : am_S := (am_n S, am_w S, am_c S, am_l S, am_r S, am_i S, am_up (am_j S) a g)
def am_wr (S : am_S) (a : Nat) (g : Nat → Option Nat) : am_S := (am_n S, am_w S, am_c S, am_l S, am_up (am_r S) a g, am_i S, am_j S)
def am_pi (S : am_S) (a k : Nat) (v : Int32) : am_S := am_wi S a (am_up (am_i S a) k v)
def am_pj (S : am_S) (a k : Nat) (v : Int64) : am_S := am_wj S a (am_up (am_j S a) k v)
def am_pr (S : am_S) (a k : Nat) (v : Nat) : am_S := am_wr S a (am_up (am_r S a) k (some v))
def am_cp (S : am_S) (a b sp dp n : Nat) : am_S := am_wi S b (va_cpy (am_i S a) (am_i S b) sp dp n)
/-- a new cell of kind c with n places -/
def am_mk (S : am_S) (c n : Nat) : am_S := (am_n S + 1, am_w S + n, am_up (am_c S) (am_n S) c, am_up (am_l S) (am_n S) n, am_up (am_r S) (am_n S) (fun _ => none), am_up (am_i S) (am_n S) (fun _ => 0), am_up (am_j S) (am_n S) (fun _ => 0))
/-- k new rows of kind c with n places each, held by the cell a from place p on -/
def am_rows (a c n : Nat) : Nat → Nat → am_S → am_S
  | 0, _, S => S
  | k + 1, p, S => am_rows a c n k (p + 1) (am_pr (am_mk S c n) a p (am_n S))
/-- the locals: by place; what isn't known is null -/
def am_nth : List Value → Nat → Value
  | [], _ => .null
  | a :: _, 0 => a
  | _ :: l, k + 1 => am_nth l k
def am_un (v : Value) : Value := match v with
  | .long _ => .null
  | .double _ => .null
  | v => v
def am_s1 : List Value → Nat → Value → List Value
  | [], _, _ => []
  | _ :: l, 0, v => v :: l
  | a :: l, 1, v => am_un a :: am_s1 l 0 v
  | a :: l, k + 2, v => a :: am_s1 l (k + 1) v
def am_s2 : List Value → Nat → Value → List Value
  | [], _, _ => []
  | [a], _, _ => [a]
  | _ :: _ :: l, 0, v => v :: .null :: l
  | a :: b :: l, 1, v => am_un a :: am_s2 (b :: l) 0 v
  | a :: b :: l, k + 2, v => a :: am_s2 (b :: l) (k + 1) v
def am_k1 : List Value → Nat → List Value
  | [], _ => []
  | _ :: l, 0 => .null :: l
  | a :: l, k + 1 => a :: am_k1 l k
def am_kl : List Nat → List Value → List Value
  | [], l => l
  | k :: ks, l => am_kl ks (am_k1 l k)
def am_cat : List Value → Nat
  | [] => 0
  | v :: l => v.category + am_cat l
/-- what a call gives, by what it answers -/
def am_bV (o : am_R) (k : am_S → am_R) : am_R := match o with
  | some (none, S) => k S
  | _ => none
def am_bI (o : am_R) (k : Int32 → am_S → am_R) : am_R := match o with
  | some (some (.int x), S) => k x S
  | _ => none
def am_bJ (o : am_R) (k : Int64 → am_S → am_R) : am_R := match o with
  | some (some (.long x), S) => k x S
  | _ => none
def am_bA (o : am_R) (k : Nat → am_S → am_R) : am_R := match o with
  | some (some (.ref x), S) => k x S
  | _ => none
def am_bq (o : Option Nat) (k : Nat → am_R) : am_R := match o with
  | some x => k x
  | none => none
def am_lt (v : am_S) (k : am_S → am_R) : am_R := k v
def am_br (c : Jvm.ClassFile.Cond) (x y : Int32) (a b : am_R) : am_R := match c with
  | .eq => if x = y then a else b
  | .ne => if x = y then b else a
  | .lt => if x < y then a else b
  | .ge => if x < y then b else a
  | .gt => if y < x then a else b
  | .le => if y < x then b else a
def am_sw (x : Int32) (d : am_R) (K : Nat → am_R) : Nat → List Int → am_R
  | _, [] => d
  | lo, t :: ts => if x = nI lo then K t.toNat else am_sw x d K (lo + 1) ts
def am_lk (x : Int32) (d : am_R) (K : Nat → am_R) : List (Int × Int) → am_R
  | [] => d
  | t :: ts => if x = nI t.1.toNat then K t.2.toNat else am_lk x d K ts
def am_inc (x : Int32) (c : Int) : Int32 := match c with
  | .ofNat k => x + nI k
  | .negSucc k => x - nI (k + 1)
/-- every reference is to a cell that is there, or to one that always is -/
def am_okl (n : Nat) : List Value → Bool
  | [] => true
  | .ref r :: l => (Nat.blt r n || Nat.ble 2000000 r) && am_okl n l
  | _ :: l => am_okl n l
def am_gd (S : am_S) (lo st : List Value) : Bool := Nat.blt (am_n S) 1000 && (am_okl (am_n S) lo && am_okl (am_n S) st)

/-- one instruction (written with our own numbers: a place in the method's list for a jump, (kind * 64 + field) * 4 + type for a field, a method's number for a call): where it goes on, or what it answers; none: it doesn't go on -/
def am_stp (f : Nat → List Value → am_S → am_R) (K : Nat → List Value → List Value → am_S → am_R) (ins : Instr) (i : Nat) (lo st : List Value) (S : am_S) : am_R :=
  match ins with
  | .iconst v => K (i + 1) lo (.int (nI v.toNat) :: st) S
  | .bipush v => K (i + 1) lo (.int (Int32.ofInt v) :: st) S
  | .goto_w v => K (i + 1) lo (.long (lN v.toNat) :: st) S
  | .jsr_w v => K (i + 1) lo (.long (Int64.ofInt v) :: st) S
  | .ldc k => K (i + 1) lo (.ref (4000000 + k) :: st) S
  | .getstatic k => K (i + 1) lo (.ref (2000000 + k) :: st) S
  | .iload k => (match am_nth lo k with | .int x => K (i + 1) lo (.int x :: st) S | _ => none)
  | .lload k => (match am_nth lo k with | .long x => K (i + 1) lo (.long x :: st) S | _ => none)
  | .aload k => (match am_nth lo k with | .ref x => K (i + 1) lo (.ref x :: st) S | _ => none)
  | .istore k => (match st with | .int x :: st => K (i + 1) (am_s1 lo k (.int x)) st S | _ => none)
  | .lstore k => (match st with | .long x :: st => K (i + 1) (am_s2 lo k (.long x)) st S | _ => none)
  | .astore k => (match st with | .ref x :: st => K (i + 1) (am_s1 lo k (.ref x)) st S | _ => none)
  | .iinc k c => (match am_nth lo k with | .int x => K (i + 1) (am_s1 lo k (.int (am_inc x c))) st S | _ => none)
  | .iadd => (match st with | .int y :: .int x :: st => K (i + 1) lo (.int (x + y) :: st) S | _ => none)
  | .isub => (match st with | .int y :: .int x :: st => K (i + 1) lo (.int (x - y) :: st) S | _ => none)
  | .imul => (match st with | .int y :: .int x :: st => K (i + 1) lo (.int (x * y) :: st) S | _ => none)
  | .iand => (match st with | .int y :: .int x :: st => K (i + 1) lo (.int (x &&& y) :: st) S | _ => none)
  | .ior => (match st with | .int y :: .int x :: st => K (i + 1) lo (.int (x ||| y) :: st) S | _ => none)
  | .ixor => (match st with | .int y :: .int x :: st => K (i + 1) lo (.int (x ^^^ y) :: st) S | _ => none)
  | .ishl => (match st with | .int y :: .int x :: st => K (i + 1) lo (.int (x <<< (y &&& 31)) :: st) S | _ => none)
  | .ishr => (match st with | .int y :: .int x :: st => K (i + 1) lo (.int (x >>> (y &&& 31)) :: st) S | _ => none)
  | .iushr => (match st with | .int y :: .int x :: st => K (i + 1) lo (.int (x.toUInt32 >>> (y &&& 31).toUInt32).toInt32 :: st) S | _ => none)
  | .idiv => (match st with | .int y :: .int x :: st => (if y = 0 then none else K (i + 1) lo (.int (x / y) :: st) S) | _ => none)
  | .irem => (match st with | .int y :: .int x :: st => (if y = 0 then none else K (i + 1) lo (.int (x - x / y * y) :: st) S) | _ => none)
  | .ladd => (match st with | .long y :: .long x :: st => K (i + 1) lo (.long (x + y) :: st) S | _ => none)
  | .lsub => (match st with | .long y :: .long x :: st => K (i + 1) lo (.long (x - y) :: st) S | _ => none)
  | .lmul => (match st with | .long y :: .long x :: st => K (i + 1) lo (.long (x * y) :: st) S | _ => none)
  | .i2f => (match st with | .long y :: .long x :: st => (if am_cat st ≤ 8 then K (i + 1) lo (.long (if y < x then x else y) :: st) S else none) | _ => none)
  | .i2d => (match st with | .long y :: .long x :: st => (if am_cat st ≤ 8 then K (i + 1) lo (.long (if y < x then y else x) :: st) S else none) | _ => none)
  | .land => (match st with | .long y :: .long x :: st => K (i + 1) lo (.long (x &&& y) :: st) S | _ => none)
  | .lor => (match st with | .long y :: .long x :: st => K (i + 1) lo (.long (x ||| y) :: st) S | _ => none)
  | .lneg => (match st with | .long x :: st => K (i + 1) lo (.long (0 - x) :: st) S | _ => none)
  | .ldiv => (match st with | .long y :: .long x :: st => (if y = 0 then none else K (i + 1) lo (.long (x / y) :: st) S) | _ => none)
  | .lrem => (match st with | .long y :: .long x :: st => (if y = 0 then none else K (i + 1) lo (.long (x - x / y * y) :: st) S) | _ => none)
  | .lshl => (match st with | .int y :: .long x :: st => K (i + 1) lo (.long (x <<< (y.toInt64 &&& 63)) :: st) S | _ => none)
  | .lshr => (match st with | .int y :: .long x :: st => K (i + 1) lo (.long (x >>> (y.toInt64 &&& 63)) :: st) S | _ => none)
  | .lushr => (match st with | .int y :: .long x :: st => K (i + 1) lo (.long (x.toUInt64 >>> (y.toInt64 &&& 63).toUInt64).toInt64 :: st) S | _ => none)
  | .lcmp => (match st with | .long y :: .long x :: st => K (i + 1) lo (.int (lg_cmp x y) :: st) S | _ => none)
  | .i2l => (match st with | .int x :: st => K (i + 1) lo (.long x.toInt64 :: st) S | _ => none)
  | .l2i => (match st with | .long x :: st => K (i + 1) lo (.int x.toInt32 :: st) S | _ => none)
  | .i2b => (match st with | .int x :: st => K (i + 1) lo (.int x.toInt8.toInt32 :: st) S | _ => none)
  | .i2s => (match st with | .int x :: st => K (i + 1) lo (.int x.toInt16.toInt32 :: st) S | _ => none)
  | .dup => (match st with | v :: st => (if v.category = 1 then K (i + 1) lo (v :: v :: st) S else none) | _ => none)
  | .dup2 => (match st with | v :: w :: st => (if v.category = 1 ∧ w.category = 1 then K (i + 1) lo (v :: w :: v :: w :: st) S else none) | _ => none)
  | .pop => (match st with | v :: st => (if v.category = 1 then K (i + 1) lo st S else none) | _ => none)
  | .goto t => K t.toNat lo st S
  | .if_icmp c t => (match st with | .int y :: .int x :: st => am_br c x y (K t.toNat lo st S) (K (i + 1) lo st S) | _ => none)
  | .ifCond c t => (match st with | .int x :: st => am_br c x 0 (K t.toNat lo st S) (K (i + 1) lo st S) | _ => none)
  | .tableswitch d l _ ts => (match st with | .int x :: st => am_sw x (K d.toNat lo st S) (fun t => K t lo st S) l.toNat ts.toList | _ => none)
  | .lookupswitch d ps => (match st with | .int x :: st => am_lk x (K d.toNat lo st S) (fun t => K t lo st S) ps.toList | _ => none)
  | .getfield k => (match st with
    | .ref a :: st => (if am_c S a = k / 256 then (match k % 4 with
      | 0 => K (i + 1) lo (.int (am_i S a (k / 4 % 64)) :: st) S
      | 1 => K (i + 1) lo (.long (am_j S a (k / 4 % 64)) :: st) S
      | _ => am_bq (am_r S a (k / 4 % 64)) fun r => K (i + 1) lo (.ref r :: st) S) else none)
    | _ => none)
  | .putfield k => (match st with
    | .int x :: .ref a :: st => (if am_c S a = k / 256 then (match k % 4 with
      | 0 => K (i + 1) lo st (am_pi S a (k / 4 % 64) x)
      | 3 => (if x = 0 ∨ x = 1 then K (i + 1) lo st (am_pi S a (k / 4 % 64) x) else none)
      | _ => none) else none)
    | .long x :: .ref a :: st => (if am_c S a = k / 256 then (match k % 4 with
      | 1 => K (i + 1) lo st (am_pj S a (k / 4 % 64) x)
      | _ => none) else none)
    | .ref x :: .ref a :: st => (if am_c S a = k / 256 then (match k % 4 with
      | 2 => (if am_c S x < 900 then K (i + 1) lo st (am_pr S a (k / 4 % 64) x) else none)
      | _ => none) else none)
    | _ => none)
  | .iaload => (match st with | .int x :: .ref a :: st => (if am_c S a = 100 then (if x < 0 ∨ am_l S a ≤ x.toNatClampNeg then none else K (i + 1) lo (.int (am_i S a x.toNatClampNeg) :: st) S) else none) | _ => none)
  | .baload => (match st with | .int x :: .ref a :: st => (if am_c S a = 101 then (if x < 0 ∨ am_l S a ≤ x.toNatClampNeg then none else K (i + 1) lo (.int (am_i S a x.toNatClampNeg) :: st) S) else none) | _ => none)
  | .laload => (match st with | .int x :: .ref a :: st => (if am_c S a = 102 then (if x < 0 ∨ am_l S a ≤ x.toNatClampNeg then none else K (i + 1) lo (.long (am_j S a x.toNatClampNeg) :: st) S) else none) | _ => none)
  | .aaload => (match st with | .int x :: .ref a :: st => (if 103 ≤ am_c S a ∧ am_c S a < 200 then (if x < 0 ∨ am_l S a ≤ x.toNatClampNeg then none else am_bq (am_r S a x.toNatClampNeg) fun r => K (i + 1) lo (.ref r :: st) S) else none) | _ => none)
  | .saload => (match st with | .int x :: .ref a :: st => (if am_c S a = 998 then (if x < 0 ∨ (am_i S (a + 1000000) 0).toNatClampNeg ≤ x.toNatClampNeg then none else K (i + 1) lo (.int (am_i S a x.toNatClampNeg) :: st) S) else none) | _ => none)
  | .iastore => (match st with | .int v :: .int x :: .ref a :: st => (if am_c S a = 100 then (if x < 0 ∨ am_l S a ≤ x.toNatClampNeg then none else K (i + 1) lo st (am_pi S a x.toNatClampNeg v)) else none) | _ => none)
  | .bastore => (match st with | .int v :: .int x :: .ref a :: st => (if am_c S a = 101 then (if x < 0 ∨ am_l S a ≤ x.toNatClampNeg then none else K (i + 1) lo st (am_pi S a x.toNatClampNeg v.toInt8.toInt32)) else none) | _ => none)
  | .lastore => (match st with | .long v :: .int x :: .ref a :: st => (if am_c S a = 102 then (if x < 0 ∨ am_l S a ≤ x.toNatClampNeg then none else K (i + 1) lo st (am_pj S a x.toNatClampNeg v)) else none) | _ => none)
  | .aastore => (match st with | .ref v :: .int x :: .ref a :: st => (if am_c S a = 103 + am_c S v ∧ am_c S v < 50 then (if x < 0 ∨ am_l S a ≤ x.toNatClampNeg then none else K (i + 1) lo st (am_pr S a x.toNatClampNeg v)) else none) | _ => none)
  | .arraylength => (match st with | .ref a :: st => (if 100 ≤ am_c S a ∧ am_c S a < 200 then K (i + 1) lo (.int (nI (am_l S a)) :: st) S else none) | _ => none)
  | .sastore => (match st with | .ref a :: st => (if am_c S a = 998 then K (i + 1) lo (.int (am_i S (a + 1000000) 0) :: st) S else none) | _ => none)
  | .new k => (if am_gd S lo st = true then K (i + 1) lo (.ref (am_n S) :: st) (am_mk S (k / 64) (k % 64)) else none)
  | .newarray t => (match st with
    | .int x :: st => (if x < 0 ∨ 1000 < x.toNatClampNeg ∨ am_gd S lo st = false then none else (match t with
      | .int => K (i + 1) lo (.ref (am_n S) :: st) (am_mk S 100 x.toNatClampNeg)
      | .byte => K (i + 1) lo (.ref (am_n S) :: st) (am_mk S 101 x.toNatClampNeg)
      | .long => K (i + 1) lo (.ref (am_n S) :: st) (am_mk S 102 x.toNatClampNeg)
      | _ => none))
    | _ => none)
  | .anewarray k => (match st with | .int x :: st => (if x < 0 ∨ 1000 < x.toNatClampNeg ∨ am_gd S lo st = false then none else K (i + 1) lo (.ref (am_n S) :: st) (am_mk S (103 + k) x.toNatClampNeg)) | _ => none)
  | .multianewarray k _ => (match st with
    | .int y :: .int x :: st => (if x < 0 ∨ 100 < x.toNatClampNeg ∨ y < 0 ∨ 1000 < y.toNatClampNeg ∨ am_gd S lo st = false then none else (match k with
      | 0 => K (i + 1) lo (.ref (am_n S) :: st) (am_rows (am_n S) 100 y.toNatClampNeg x.toNatClampNeg 0 (am_mk S 180 x.toNatClampNeg))
      | 1 => K (i + 1) lo (.ref (am_n S) :: st) (am_rows (am_n S) 102 y.toNatClampNeg x.toNatClampNeg 0 (am_mk S 182 x.toNatClampNeg))
      | _ => none))
    | _ => none)
  | .monitorenter => (match st with | .ref _ :: st => (if am_cat st ≤ 8 then K (i + 1) lo st S else none) | _ => none)
  | .monitorexit => (match st with
    | .int n :: .int dp :: .ref b :: .int sp :: .ref a :: st => (if am_cat st ≤ 8 ∧ am_c S a = 100 ∧ am_c S b = 100 then
      (if sp < 0 ∨ dp < 0 ∨ n < 0 ∨ am_l S a < sp.toNatClampNeg + n.toNatClampNeg ∨ am_l S b < dp.toNatClampNeg + n.toNatClampNeg then none
      else K (i + 1) lo st (am_cp S a b sp.toNatClampNeg dp.toNatClampNeg n.toNatClampNeg)) else none)
    | _ => none)
  | .caload => (match st with | .int x :: .ref a :: st => (if am_cat st ≤ 8 ∧ am_c S a = 997 then (if x < 0 ∨ (am_i S (a + 1000000) 0).toNatClampNeg ≤ x.toNatClampNeg then none else K (i + 1) lo (.int (am_i S a x.toNatClampNeg) :: st) S) else none) | _ => none)
  | .castore => (match st with | .ref a :: st => (if am_cat st ≤ 8 ∧ am_c S a = 997 then K (i + 1) lo (.int (am_i S (a + 1000000) 0) :: st) S else none) | _ => none)
  | .invokestatic y => (if am_cat (st.drop (pg_sg y).1) ≤ 8 ∧ (st.take (pg_sg y).1).length = (pg_sg y).1 then (match (pg_sg y).2 with
      | 0 => am_bV (f y (st.take (pg_sg y).1).reverse S) fun S => K (i + 1) lo (st.drop (pg_sg y).1) S
      | 1 => am_bI (f y (st.take (pg_sg y).1).reverse S) fun x S => K (i + 1) lo (.int x :: st.drop (pg_sg y).1) S
      | 2 => am_bJ (f y (st.take (pg_sg y).1).reverse S) fun x S => K (i + 1) lo (.long x :: st.drop (pg_sg y).1) S
      | _ => am_bA (f y (st.take (pg_sg y).1).reverse S) fun x S => K (i + 1) lo (.ref x :: st.drop (pg_sg y).1) S) else none)
  | .invokespecial y => (if am_gd S lo (st.drop (pg_sg y).1) = true ∧ am_cat (st.drop (pg_sg y).1) ≤ 8 ∧ (st.take (pg_sg y).1).length = (pg_sg y).1 ∧ (pg_sg y).2 = 0 then am_bV (f y (st.take (pg_sg y).1).reverse S) (fun S => K (i + 1) lo (st.drop (pg_sg y).1) S) else none)
  | .ireturn => (match st with | [.int x] => some (some (.int x), S) | _ => none)
  | .freturn => (match st with | [.int x] => (if x = 0 ∨ x = 1 then some (some (.int x), S) else none) | _ => none)
  | .lreturn => (match st with | [.long x] => some (some (.long x), S) | _ => none)
  | .areturn => (match st with | [.ref x] => (if 2000000 ≤ x then some (some (.ref x), S) else none) | _ => none)
  | .return_ => (match st with | [] => some (none, S) | _ => none)
  | _ => none

/-! ===== a method's run: by steps (am_run), without end (am_X), from cut to cut (am_Xs) ===== -/
def am_kil (m i : Nat) (lo : List Value) : List Value := match pg_ct m i with
  | some ks => am_kl ks lo
  | none => lo
def am_run (f : Nat → List Value → am_S → am_R) (m : Nat) : Nat → Nat → List Value → List Value → am_S → am_R
  | 0, _, _, _, _ => none
  | n + 1, i, lo, st, S => am_stp f (am_run f m n) (pg_cd m i) i (am_kil m i lo) st S
noncomputable def am_X (f : Nat → List Value → am_S → am_R) (m i : Nat) (lo st : List Value) (S : am_S) : am_R :=
  @dite _ (∃ (r : Option Value × am_S) (n : Nat), am_run f m n i lo st S = some r) (Classical.propDecidable _) (fun h => some (Classical.choose h)) (fun _ => none)
noncomputable def am_Xs (f : Nat → List Value → am_S → am_R) (m : Nat) : Nat → Nat → List Value → List Value → am_S → am_R
  | 0, i, lo, st, S => am_X f m i lo st S
  | n + 1, i, lo, st, S => match pg_ct m i with
    | some ks => am_X f m i (am_kl ks lo) st S
    | none => am_stp f (am_Xs f m n) (pg_cd m i) i lo st S
/-- the locals at a method's start -/
def am_spr : List Value → List Value
  | [] => []
  | .long x :: l => .long x :: .null :: am_spr l
  | v :: l => v :: am_spr l
def am_pad : Nat → List Value → List Value
  | 0, l => l
  | n + 1, [] => .null :: am_pad n []
  | n + 1, a :: l => a :: am_pad n l
def am_ent (y : Nat) (args : List Value) : List Value := am_pad (pg_mx y) (am_spr args)
/-- a call, d calls deep at most -/
noncomputable def am_call : Nat → Nat → List Value → am_S → am_R
  | 0, _, _, _ => none
  | d + 1, y, args, S => am_X (am_call d) y 0 (am_ent y args) [] S

/-! ===== am_X goes on by steps ===== -/
/-- what a gives, the row as gives too, from some place on -/
def am_Cn (a : am_R) (as : Nat → am_R) : Prop := ∀ r, a = some r → ∃ n, as n = some r
theorem am_Cn.no {as : Nat → am_R} : am_Cn none as := fun r h => by cases h
theorem am_Cn.yes {x : am_R} : am_Cn x (fun _ => x) := fun r h => ⟨0, h⟩
theorem am_Cn.ite {c : Prop} [Decidable c] {a b : am_R} {as bs : Nat → am_R} (ha : am_Cn a as) (hb : am_Cn b bs) : am_Cn (if c then a else b) (fun n => if c then as n else bs n) := by
  intro r h
  by_cases hc : c
  · simp only [if_pos hc] at h ⊢
    exact ha r h
  · simp only [if_neg hc] at h ⊢
    exact hb r h
theorem am_Cn.bV {o : am_R} {k : am_S → am_R} {ks : Nat → am_S → am_R} (h : ∀ S, am_Cn (k S) (fun n => ks n S)) : am_Cn (am_bV o k) (fun n => am_bV o (ks n)) := by
  rcases o with _ | ⟨_ | v, S⟩
  · exact am_Cn.no
  · exact h S
  · exact am_Cn.no
theorem am_Cn.bI {o : am_R} {k : Int32 → am_S → am_R} {ks : Nat → Int32 → am_S → am_R} (h : ∀ x S, am_Cn (k x S) (fun n => ks n x S)) : am_Cn (am_bI o k) (fun n => am_bI o (ks n)) := by
  rcases o with _ | ⟨_ | v, S⟩
  · exact am_Cn.no
  · exact am_Cn.no
  · cases v <;> first | exact h _ S | exact am_Cn.no
theorem am_Cn.bJ {o : am_R} {k : Int64 → am_S → am_R} {ks : Nat → Int64 → am_S → am_R} (h : ∀ x S, am_Cn (k x S) (fun n => ks n x S)) : am_Cn (am_bJ o k) (fun n => am_bJ o (ks n)) := by
  rcases o with _ | ⟨_ | v, S⟩
  · exact am_Cn.no
  · exact am_Cn.no
  · cases v <;> first | exact h _ S | exact am_Cn.no
theorem am_Cn.bA {o : am_R} {k : Nat → am_S → am_R} {ks : Nat → Nat → am_S → am_R} (h : ∀ x S, am_Cn (k x S) (fun n => ks n x S)) : am_Cn (am_bA o k) (fun n => am_bA o (ks n)) := by
  rcases o with _ | ⟨_ | v, S⟩
  · exact am_Cn.no
  · exact am_Cn.no
  · cases v <;> first | exact h _ S | exact am_Cn.no
theorem am_Cn.bq {o : Option Nat} {k : Nat → am_R} {ks : Nat → Nat → am_R} (h : ∀ x, am_Cn (k x) (fun n => ks n x)) : am_Cn (am_bq o k) (fun n => am_bq o (ks n)) := by
  rcases o with _ | v
  · exact am_Cn.no
  · exact h v
theorem am_Cn.br {c : Jvm.ClassFile.Cond} {x y : Int32} {a b : am_R} {as bs : Nat → am_R} (ha : am_Cn a as) (hb : am_Cn b bs) : am_Cn (am_br c x y a b) (fun n => am_br c x y (as n) (bs n)) := by
  cases c
  · exact am_Cn.ite ha hb
  · exact am_Cn.ite hb ha
  · exact am_Cn.ite ha hb
  · exact am_Cn.ite hb ha
  · exact am_Cn.ite ha hb
  · exact am_Cn.ite hb ha
theorem am_Cn.sw {x : Int32} {d : am_R} {ds : Nat → am_R} {K : Nat → am_R} {Ks : Nat → Nat → am_R} (hd : am_Cn d ds) (hK : ∀ t, am_Cn (K t) (fun n => Ks n t)) : ∀ (ts : List Int) (lo : Nat), am_Cn (am_sw x d K lo ts) (fun n => am_sw x (ds n) (Ks n) lo ts)
  | [], _ => hd
  | t :: ts, lo => am_Cn.ite (hK _) (am_Cn.sw hd hK ts (lo + 1))
theorem am_Cn.lk {x : Int32} {d : am_R} {ds : Nat → am_R} {K : Nat → am_R} {Ks : Nat → Nat → am_R} (hd : am_Cn d ds) (hK : ∀ t, am_Cn (K t) (fun n => Ks n t)) : ∀ (ts : List (Int × Int)), am_Cn (am_lk x d K ts) (fun n => am_lk x (ds n) (Ks n) ts)
  | [] => hd
  | t :: ts => am_Cn.ite (hK _) (am_Cn.lk hd hK ts)
theorem am_cont {f : Nat → List Value → am_S → am_R} {K : Nat → List Value → List Value → am_S → am_R} {Ks : Nat → Nat → List Value → List Value → am_S → am_R} (hK : ∀ i lo st S, am_Cn (K i lo st S) (fun n => Ks n i lo st S)) (ins : Instr) (i : Nat) (lo st : List Value) (S : am_S) :
    am_Cn (am_stp f K ins i lo st S) (fun n => am_stp f (Ks n) ins i lo st S) := by
  cases ins
  case getfield k =>
    rcases st with _ | ⟨v, st⟩
    · exact am_Cn.no
    · cases v
      case ref a =>
        refine am_Cn.ite ?_ am_Cn.no
        generalize k % 4 = q
        rcases q with _ | _ | q
        · exact hK _ _ _ _
        · exact hK _ _ _ _
        · exact am_Cn.bq fun _ => hK _ _ _ _
      all_goals exact am_Cn.no
  case putfield k =>
    rcases st with _ | ⟨v, _ | ⟨w, st⟩⟩
    · exact am_Cn.no
    · cases v <;> exact am_Cn.no
    · cases v
      case int x =>
        cases w
        case ref a =>
          refine am_Cn.ite ?_ am_Cn.no
          generalize k % 4 = q
          rcases q with _ | _ | _ | _ | q
          · exact hK _ _ _ _
          · exact am_Cn.no
          · exact am_Cn.no
          · exact am_Cn.ite (hK _ _ _ _) am_Cn.no
          · exact am_Cn.no
        all_goals exact am_Cn.no
      case long x =>
        cases w
        case ref a =>
          refine am_Cn.ite ?_ am_Cn.no
          generalize k % 4 = q
          rcases q with _ | _ | q
          · exact am_Cn.no
          · exact hK _ _ _ _
          · exact am_Cn.no
        all_goals exact am_Cn.no
      case ref x =>
        cases w
        case ref a =>
          refine am_Cn.ite ?_ am_Cn.no
          generalize k % 4 = q
          rcases q with _ | _ | _ | q
          · exact am_Cn.no
          · exact am_Cn.no
          · exact am_Cn.ite (hK _ _ _ _) am_Cn.no
          · exact am_Cn.no
        all_goals exact am_Cn.no
      all_goals exact am_Cn.no
  case newarray t =>
    rcases st with _ | ⟨v, st⟩
    · exact am_Cn.no
    · cases v
      case int x =>
        refine am_Cn.ite am_Cn.no ?_
        cases t <;> first | exact hK _ _ _ _ | exact am_Cn.no
      all_goals exact am_Cn.no
  case multianewarray k e =>
    rcases st with _ | ⟨v, _ | ⟨w, st⟩⟩
    · exact am_Cn.no
    · cases v <;> exact am_Cn.no
    · cases v
      case int y =>
        cases w
        case int x =>
          refine am_Cn.ite am_Cn.no ?_
          rcases k with _ | _ | k
          · exact hK _ _ _ _
          · exact hK _ _ _ _
          · exact am_Cn.no
        all_goals exact am_Cn.no
      all_goals exact am_Cn.no
  case invokestatic y =>
    refine am_Cn.ite ?_ am_Cn.no
    generalize (pg_sg y).2 = q
    rcases q with _ | _ | _ | q
    · exact am_Cn.bV fun _ => hK _ _ _ _
    · exact am_Cn.bI fun _ _ => hK _ _ _ _
    · exact am_Cn.bJ fun _ _ => hK _ _ _ _
    · exact am_Cn.bA fun _ _ => hK _ _ _ _
  case invokespecial y => exact am_Cn.ite (am_Cn.bV fun _ => hK _ _ _ _) am_Cn.no
  case ireturn => exact am_Cn.yes
  case freturn => exact am_Cn.yes
  case lreturn => exact am_Cn.yes
  case areturn => exact am_Cn.yes
  case return_ => exact am_Cn.yes
  case new k => exact am_Cn.ite (hK _ _ _ _) am_Cn.no
  case iload k =>
    have e : ∀ v, am_nth lo k = v → am_Cn (am_stp f K (.iload k) i lo st S) (fun n => am_stp f (Ks n) (.iload k) i lo st S) := by
      intro v hv
      simp only [am_stp, hv]
      cases v <;> first | exact hK _ _ _ _ | exact am_Cn.no
    exact e _ rfl
  case lload k =>
    have e : ∀ v, am_nth lo k = v → am_Cn (am_stp f K (.lload k) i lo st S) (fun n => am_stp f (Ks n) (.lload k) i lo st S) := by
      intro v hv
      simp only [am_stp, hv]
      cases v <;> first | exact hK _ _ _ _ | exact am_Cn.no
    exact e _ rfl
  case aload k =>
    have e : ∀ v, am_nth lo k = v → am_Cn (am_stp f K (.aload k) i lo st S) (fun n => am_stp f (Ks n) (.aload k) i lo st S) := by
      intro v hv
      simp only [am_stp, hv]
      cases v <;> first | exact hK _ _ _ _ | exact am_Cn.no
    exact e _ rfl
  case iinc k c =>
    have e : ∀ v, am_nth lo k = v → am_Cn (am_stp f K (.iinc k c) i lo st S) (fun n => am_stp f (Ks n) (.iinc k c) i lo st S) := by
      intro v hv
      simp only [am_stp, hv]
      cases v <;> first | exact hK _ _ _ _ | exact am_Cn.no
    exact e _ rfl
  all_goals first
    | exact am_Cn.no
    | exact hK _ _ _ _
    | exact am_Cn.yes
    | skip
  all_goals (rcases st with _ | ⟨v1, st⟩ <;> first | exact am_Cn.no | skip)
  all_goals (first | exact am_Cn.ite (hK _ _ _ _) am_Cn.no | (cases v1 <;> first | exact am_Cn.no | exact hK _ _ _ _ | exact am_Cn.yes | exact am_Cn.br (hK _ _ _ _) (hK _ _ _ _) | exact am_Cn.sw (hK _ _ _ _) (fun _ => hK _ _ _ _) _ _ | exact am_Cn.lk (hK _ _ _ _) (fun _ => hK _ _ _ _) _ | exact am_Cn.ite (hK _ _ _ _) am_Cn.no | exact am_Cn.ite am_Cn.no (hK _ _ _ _) | skip) | skip)
  all_goals (rcases st with _ | ⟨v2, st⟩ <;> first | exact am_Cn.no | skip)
  all_goals (first | exact am_Cn.ite (hK _ _ _ _) am_Cn.no | (cases v2 <;> first | exact am_Cn.no | exact hK _ _ _ _ | exact am_Cn.br (hK _ _ _ _) (hK _ _ _ _) | exact am_Cn.ite (hK _ _ _ _) am_Cn.no | exact am_Cn.ite am_Cn.no (hK _ _ _ _) | exact am_Cn.ite (am_Cn.ite am_Cn.no (hK _ _ _ _)) am_Cn.no | exact am_Cn.ite (am_Cn.ite am_Cn.no (am_Cn.bq fun _ => hK _ _ _ _)) am_Cn.no | skip) | skip)
  all_goals (rcases st with _ | ⟨v3, st⟩ <;> first | exact am_Cn.no | skip)
  all_goals (cases v3 <;> first | exact am_Cn.no | exact am_Cn.ite (am_Cn.ite am_Cn.no (hK _ _ _ _)) am_Cn.no | skip)
  all_goals (rcases st with _ | ⟨v4, st⟩ <;> first | exact am_Cn.no | skip)
  all_goals (cases v4 <;> first | exact am_Cn.no | skip)
  all_goals (rcases st with _ | ⟨v5, st⟩ <;> first | exact am_Cn.no | skip)
  all_goals (cases v5 <;> first | exact am_Cn.no | exact am_Cn.ite (am_Cn.ite am_Cn.no (hK _ _ _ _)) am_Cn.no)

theorem am_run_mono1 {f : Nat → List Value → am_S → am_R} {m : Nat} : ∀ (n i : Nat) (lo st : List Value) (S : am_S) (r : Option Value × am_S), am_run f m n i lo st S = some r → am_run f m (n + 1) i lo st S = some r
  | 0, _, _, _, _, _, h => by cases h
  | n + 1, i, lo, st, S, r, h => by
    obtain ⟨_, h2⟩ := am_cont (K := am_run f m n) (Ks := fun _ => am_run f m (n + 1)) (fun i lo st S r h => ⟨0, am_run_mono1 n i lo st S r h⟩) _ _ _ _ _ r h
    exact h2
theorem am_run_mono {f : Nat → List Value → am_S → am_R} {m n k i : Nat} {lo st : List Value} {S : am_S} {r : Option Value × am_S} (h : am_run f m n i lo st S = some r) (hk : n ≤ k) : am_run f m k i lo st S = some r := by
  induction hk with
  | refl => exact h
  | step _ ih => exact am_run_mono1 _ _ _ _ _ _ ih
theorem am_X_of {f : Nat → List Value → am_S → am_R} {m n i : Nat} {lo st : List Value} {S : am_S} {r : Option Value × am_S} (h : am_run f m n i lo st S = some r) : am_X f m i lo st S = some r := by
  have he : ∃ (r : Option Value × am_S) (n : Nat), am_run f m n i lo st S = some r := ⟨r, n, h⟩
  unfold am_X
  rw [dif_pos he]
  obtain ⟨n', h'⟩ := Classical.choose_spec he
  have h1 := am_run_mono h (Nat.le_max_left n n')
  have h2 := am_run_mono h' (Nat.le_max_right n n')
  exact h2.symm.trans h1
theorem am_X_to {f : Nat → List Value → am_S → am_R} {m i : Nat} {lo st : List Value} {S : am_S} {r : Option Value × am_S} (h : am_X f m i lo st S = some r) : ∃ n, am_run f m n i lo st S = some r := by
  unfold am_X at h
  by_cases he : ∃ (r : Option Value × am_S) (n : Nat), am_run f m n i lo st S = some r
  · rw [dif_pos he] at h
    obtain ⟨n', h'⟩ := Classical.choose_spec he
    cases h
    exact ⟨n', h'⟩
  · rw [dif_neg he] at h
    cases h
theorem am_X_eq (f : Nat → List Value → am_S → am_R) (m i : Nat) (lo st : List Value) (S : am_S) : am_X f m i lo st S = am_stp f (am_X f m) (pg_cd m i) i (am_kil m i lo) st S := by
  cases h : am_stp f (am_X f m) (pg_cd m i) i (am_kil m i lo) st S with
  | some r =>
    obtain ⟨n, h2⟩ := am_cont (K := am_X f m) (Ks := am_run f m) (fun i lo st S r h => am_X_to h) _ _ _ _ _ r h
    exact am_X_of (n := n + 1) h2
  | none =>
    cases h3 : am_X f m i lo st S with
    | none => rfl
    | some r =>
      obtain ⟨n, h4⟩ := am_X_to h3
      cases n with
      | zero => cases h4
      | succ n =>
        obtain ⟨_, h5⟩ := am_cont (K := am_run f m n) (Ks := fun _ => am_X f m) (fun i lo st S r h => ⟨0, am_X_of h⟩) _ _ _ _ _ r h4
        rw [h] at h5
        cases h5
theorem am_kl_kl (ks : List Nat) (lo : List Value) : am_kl ks (am_kl ks lo) = am_kl ks lo := by
  have c1 : ∀ (l : List Value) (a b : Nat), am_k1 (am_k1 l a) b = am_k1 (am_k1 l b) a := by
    intro l
    induction l with
    | nil => intro a b; rfl
    | cons v l ih =>
      intro a b
      rcases a with _ | a <;> rcases b with _ | b
      · rfl
      · rfl
      · rfl
      · show v :: am_k1 (am_k1 l a) b = v :: am_k1 (am_k1 l b) a
        rw [ih]
  have c2 : ∀ (l : List Value) (a : Nat), am_k1 (am_k1 l a) a = am_k1 l a := by
    intro l
    induction l with
    | nil => intro a; rfl
    | cons v l ih =>
      intro a
      rcases a with _ | a
      · rfl
      · show v :: am_k1 (am_k1 l a) a = v :: am_k1 l a
        rw [ih]
  have c3 : ∀ (ks : List Nat) (l : List Value) (a : Nat), am_kl ks (am_k1 l a) = am_k1 (am_kl ks l) a := by
    intro ks
    induction ks with
    | nil => intro l a; rfl
    | cons k ks ih =>
      intro l a
      show am_kl ks (am_k1 (am_k1 l a) k) = am_k1 (am_kl ks (am_k1 l k)) a
      rw [c1, ih]
  induction ks generalizing lo with
  | nil => rfl
  | cons k ks ih =>
    show am_kl ks (am_k1 (am_kl ks (am_k1 lo k)) k) = am_kl ks (am_k1 lo k)
    rw [c3, ih, ← c3, c2]
theorem am_X_kl {f : Nat → List Value → am_S → am_R} {m i : Nat} {ks : List Nat} (hc : pg_ct m i = some ks) (lo st : List Value) (S : am_S) : am_X f m i (am_kl ks lo) st S = am_X f m i lo st S := by
  rw [am_X_eq, am_X_eq f m i lo]
  unfold am_kil
  rw [hc]
  show am_stp _ _ _ _ (am_kl ks (am_kl ks lo)) _ _ = am_stp _ _ _ _ (am_kl ks lo) _ _
  rw [am_kl_kl]
theorem am_Xs_eq (f : Nat → List Value → am_S → am_R) (m : Nat) : ∀ n, am_Xs f m n = am_X f m
  | 0 => rfl
  | n + 1 => by
    funext i lo st S
    cases hc : pg_ct m i with
    | some ks =>
      have e : am_Xs f m (n + 1) i lo st S = am_X f m i (am_kl ks lo) st S := by
        show (match pg_ct m i with | some ks => am_X f m i (am_kl ks lo) st S | none => _) = _
        rw [hc]
      rw [e, am_X_kl hc]
    | none =>
      have e : am_Xs f m (n + 1) i lo st S = am_stp f (am_Xs f m n) (pg_cd m i) i lo st S := by
        show (match pg_ct m i with | some ks => am_X f m i (am_kl ks lo) st S | none => _) = _
        rw [hc]
      rw [e, am_Xs_eq f m n, am_X_eq f m i]
      unfold am_kil
      rw [hc]
theorem am_blk (k : Nat) (f : Nat → List Value → am_S → am_R) (m i : Nat) (lo st : List Value) (S : am_S) : am_X f m i lo st S = am_stp f (am_Xs f m k) (pg_cd m i) i (am_kil m i lo) st S := by
  rw [am_Xs_eq]
  exact am_X_eq f m i lo st S
end
section
/-! ===== BEGIN by program (wip/whole/gen/links.py): names, words, and where each instruction stands ===== -/
def am_on : Nat → String := fun k => match k with
  | 0 => RX0
  | 1 => RX1
  | 2 => RX2
  | 3 => RX3
  | 4 => RX4
  | 5 => RX5
  | 6 => RX6
  | 7 => RX7
  | 8 => RX8
  | 9 => RX9
  | 10 => RX10
  | 11 => RX11
  | 12 => RX12
  | 40 => "OneIsTwoLaw"
  | 41 => "java/lang/Integer"
  | _ => "java/lang/Math"
def am_T : Nat → u_T := fun k => match k with
  | 0 => TX0
  | 1 => TX1
  | 2 => TX2
  | 3 => TX3
  | 4 => TX4
  | 5 => TX5
  | 6 => TX6
  | 7 => TX7
  | 8 => TX8
  | 9 => TX9
  | 10 => TX10
  | 11 => TX11
  | _ => TX12
def am_N : Nat → Nat := fun k => match k with
  | 0 => 6
  | 1 => 5
  | 2 => 3
  | 3 => 5
  | 4 => 7
  | 5 => 2
  | 6 => 3
  | 7 => 12
  | 8 => 1
  | 9 => 4
  | 10 => 15
  | 11 => 19
  | _ => 37
def am_ty : Nat → Nat → FieldType := fun k => match k with
  | 0 => tyX0
  | 1 => tyX1
  | 2 => tyX2
  | 3 => tyX3
  | 4 => tyX4
  | 5 => tyX5
  | 6 => tyX6
  | 7 => tyX7
  | 8 => tyX8
  | 9 => tyX9
  | 10 => tyX10
  | 11 => tyX11
  | _ => tyX12
/-- the fields' types: 0 int, 1 long, 2 a reference, 3 boolean -/
def am_ft : Nat → List Nat := fun k => match k with
  | 0 => [2, 0, 0, 0, 0, 3]
  | 1 => [0, 0, 0, 0, 0]
  | 2 => [0, 0, 0]
  | 3 => [2, 2, 2, 2, 0]
  | 4 => [2, 2, 0, 0, 0, 0, 0]
  | 5 => [2, 2]
  | 6 => [2, 2, 2]
  | 7 => [0, 0, 0, 0, 0, 0, 0, 0, 0, 3, 3, 3]
  | 8 => [2]
  | 9 => [0, 0, 0, 0]
  | 10 => [2, 2, 2, 2, 2, 2, 2, 2, 0, 0, 0, 0, 0, 0, 0]
  | 11 => [2, 2, 2, 2, 2, 2, 2, 2, 2, 2, 2, 2, 2, 2, 2, 2, 3, 0, 0]
  | _ => [2, 2, 2, 3, 2, 2, 2, 0, 0, 0, 0, 0, 0, 3, 2, 2, 2, 2, 2, 0, 0, 0, 0, 2, 0, 2, 2, 2, 2, 2, 2, 0, 0, 0, 2, 0, 3]
def pg_nm_0 : List (MethodName) := [⟨am_on 0, "<init>", "()V"⟩, ⟨am_on 0, "begin", "()V"⟩, ⟨am_on 0, "perform", "(IIIII)I"⟩, ⟨am_on 0, "run", "(III)I"⟩, ⟨am_on 0, "parted", "(I)I"⟩, ⟨am_on 1, "<init>", "()V"⟩, ⟨am_on 1, "set", "(IIIII)V"⟩, ⟨am_on 2, "<init>", "()V"⟩, ⟨am_on 2, "set", "(III)V"⟩, ⟨am_on 3, "<init>", "()V"⟩, ⟨am_on 3, "valueNames", "(I)Ljava/lang/String;"⟩, ⟨am_on 3, "clear", "()V"⟩, ⟨am_on 3, "addCode", "(I)V"⟩, ⟨am_on 3, "closeClause", "(II)V"⟩, ⟨am_on 3, "copyFrom", "(LOneIsTwo$Law;)V"⟩, ⟨am_on 3, "valueOf", "(I[I)I"⟩]
def pg_nm_1 : List (MethodName) := [⟨am_on 3, "holds", "(I[I)Z"⟩, ⟨am_on 3, "compares", "(I[I)Z"⟩, ⟨am_on 4, "<init>", "([B)V"⟩, ⟨am_on 4, "open", "(I)V"⟩, ⟨am_on 4, "isThrough", "()Z"⟩, ⟨am_on 4, "readClause", "()Z"⟩, ⟨am_on 4, "readAnyOf", "(I)Z"⟩, ⟨am_on 4, "readAllOf", "(I)Z"⟩, ⟨am_on 4, "readOne", "(I)Z"⟩, ⟨am_on 4, "readComparison", "()Z"⟩, ⟨am_on 4, "operand", "()I"⟩, ⟨am_on 4, "next", "()V"⟩, ⟨am_on 4, "readNumber", "()V"⟩, ⟨am_on 4, "isWord", "(Ljava/lang/String;)Z"⟩, ⟨am_on 4, "placeAmong", "(Ljava/lang/String;)I"⟩, ⟨am_on 4, "isLetter", "(I)Z"⟩]
def pg_nm_2 : List (MethodName) := [⟨am_on 4, "isDigit", "(I)Z"⟩, ⟨am_on 5, "<init>", "(LOneIsTwo$World;)V"⟩, ⟨am_on 5, "lowest", "(JI)J"⟩, ⟨am_on 5, "sumOf", "(II)J"⟩, ⟨am_on 5, "nextSharer", "(I)I"⟩, ⟨am_on 5, "follow", "(I)V"⟩, ⟨am_on 5, "give", "(II)V"⟩, ⟨am_on 5, "part", "(ILOneIsTwo$Event;)V"⟩, ⟨am_on 6, "<init>", "(LOneIsTwo$World;)V"⟩, ⟨am_on 6, "recall", "()V"⟩, ⟨am_on 6, "toldUpTo", "(I)I"⟩, ⟨am_on 6, "leastApart", "(II)I"⟩, ⟨am_on 6, "fewestDeeds", "()I"⟩, ⟨am_on 6, "findApart", "()I"⟩, ⟨am_on 6, "tellApart", "(II)Z"⟩, ⟨am_on 6, "whoAnswers", "(I)I"⟩]
def pg_nm_3 : List (MethodName) := [⟨am_on 6, "bodyOf", "(I)I"⟩, ⟨am_on 6, "unlessEnded", "(I)I"⟩, ⟨am_on 6, "allWhoKnow", "(I)I"⟩, ⟨am_on 6, "isCounted", "(I)Z"⟩, ⟨am_on 6, "voteBelow", "(I)I"⟩, ⟨am_on 6, "votesOf", "(I)I"⟩, ⟨am_on 7, "<init>", "()V"⟩, ⟨am_on 7, "begin", "(II)V"⟩, ⟨am_on 7, "copyFrom", "(LOneIsTwo$Person;)V"⟩, ⟨am_on 8, "<init>", "(LOneIsTwo$World;)V"⟩, ⟨am_on 8, "across", "(I)I"⟩, ⟨am_on 8, "follow", "(LOneIsTwo$Wedding;I)I"⟩, ⟨am_on 8, "withCopy", "(ILOneIsTwo$Event;)I"⟩, ⟨am_on 9, "<init>", "()V"⟩, ⟨am_on 9, "set", "(IIII)V"⟩, ⟨am_on 10, "<init>", "()V"⟩]
def pg_nm_4 : List (MethodName) := [⟨am_on 10, "copyFrom", "(LOneIsTwo$World;)V"⟩, ⟨am_on 10, "isPerson", "(I)Z"⟩, ⟨am_on 10, "isClaim", "(I)Z"⟩, ⟨am_on 10, "isDeed", "(I)Z"⟩, ⟨am_on 10, "isAwake", "(I)Z"⟩, ⟨am_on 10, "isEnded", "(I)Z"⟩, ⟨am_on 10, "countAwake", "()I"⟩, ⟨am_on 10, "hasRoomForOne", "()Z"⟩, ⟨am_on 10, "hasRoomForEvent", "()Z"⟩, ⟨am_on 10, "addFirst", "()I"⟩, ⟨am_on 10, "addCopy", "(IIIIZ)I"⟩, ⟨am_on 10, "addJoined", "(II)I"⟩, ⟨am_on 10, "wakeOne", "(I)I"⟩, ⟨am_on 10, "endOne", "(I)I"⟩, ⟨am_on 10, "come", "(II)I"⟩, ⟨am_on 10, "goAway", "(II)V"⟩]
def pg_nm_5 : List (MethodName) := [⟨am_on 10, "tell", "(II)V"⟩, ⟨am_on 10, "addClaim", "(III)I"⟩, ⟨am_on 10, "addDeed", "(I)I"⟩, ⟨am_on 10, "addWedding", "(II)I"⟩, ⟨am_on 10, "takeLaw", "(LOneIsTwo$Law;)V"⟩, ⟨am_on 10, "settle", "(I)V"⟩, ⟨am_on 10, "saysOn", "(IIIII)I"⟩, ⟨am_on 10, "saysNow", "(II)I"⟩, ⟨am_on 10, "isTakingPlace", "(LOneIsTwo$Event;I)Z"⟩, ⟨am_on 10, "rootOf", "(I)I"⟩, ⟨am_on 10, "forebears", "(I)I"⟩, ⟨am_on 11, "<init>", "()V"⟩, ⟨am_on 11, "later", "(I)I"⟩, ⟨am_on 11, "born", "()I"⟩, ⟨am_on 11, "copied", "(IIIIZ)I"⟩, ⟨am_on 11, "wake", "(I)I"⟩]
def pg_nm_6 : List (MethodName) := [⟨am_on 11, "join", "(II)I"⟩, ⟨am_on 11, "end", "(I)I"⟩, ⟨am_on 11, "person", "(II)I"⟩, ⟨am_on 11, "kin", "(I)I"⟩, ⟨am_on 11, "common", "(II)I"⟩, ⟨am_on 11, "feed", "(JI)I"⟩, ⟨am_on 11, "law", "()I"⟩, ⟨am_on 11, "says", "(II)I"⟩, ⟨am_on 11, "claim", "(III)I"⟩, ⟨am_on 11, "claimOf", "(II)I"⟩, ⟨am_on 11, "share", "(III)J"⟩, ⟨am_on 11, "total", "(III)J"⟩, ⟨am_on 11, "deed", "(I)I"⟩, ⟨am_on 11, "remembers", "(II)I"⟩, ⟨am_on 11, "blame", "(I)I"⟩, ⟨am_on 11, "wed", "(II)I"⟩]
def pg_nm_7 : List (MethodName) := [⟨am_on 11, "wedTo", "(I)I"⟩, ⟨am_on 11, "votes", "(II)I"⟩, ⟨am_on 11, "rooted", "(I)I"⟩, ⟨am_on 11, "apart", "(II)I"⟩, ⟨am_on 11, "fewest", "(I)I"⟩, ⟨am_on 11, "pays", "(II)J"⟩, ⟨am_on 11, "tryChoice", "(II)I"⟩, ⟨am_on 11, "lender", "(III)J"⟩, ⟨am_on 11, "seed", "(I)I"⟩, ⟨am_on 11, "call", "()I"⟩, ⟨am_on 11, "prove", "(I)I"⟩, ⟨am_on 11, "row", "(II)J"⟩, ⟨am_on 11, "alterRow", "(IIJ)J"⟩, ⟨am_on 11, "judge", "(I)I"⟩, ⟨am_on 11, "isRowPlace", "(II)Z"⟩, ⟨am_on 11, "isRightRow", "(II)Z"⟩]
def pg_nm_8 : List (MethodName) := [⟨am_on 11, "sheet", "(III)I"⟩, ⟨am_on 11, "put", "(III)I"⟩, ⟨am_on 11, "item", "(III)I"⟩, ⟨am_on 11, "debts", "(IIII)I"⟩, ⟨am_on 11, "shelf", "(III)I"⟩, ⟨am_on 11, "taken", "(II)I"⟩, ⟨am_on 11, "act", "(III)I"⟩, ⟨am_on 11, "trace", "(I)I"⟩, ⟨am_on 11, "many", "(I)I"⟩, ⟨am_on 11, "keep", "()I"⟩, ⟨am_on 11, "again", "()I"⟩, ⟨am_on 11, "lay", "(III)I"⟩, ⟨am_on 11, "layRow", "(II)I"⟩, ⟨am_on 11, "heldOn", "(I)I"⟩, ⟨am_on 11, "kindOn", "(I)I"⟩, ⟨am_on 11, "isUnder", "(II)Z"⟩]
def pg_nm_9 : List (MethodName) := [⟨am_on 11, "narrowed", "(II)I"⟩, ⟨am_on 11, "isSheet", "(I)Z"⟩, ⟨am_on 11, "isShelf", "(I)Z"⟩, ⟨am_on 11, "isPart", "(I)Z"⟩, ⟨am_on 11, "isClaimSort", "(I)Z"⟩, ⟨am_on 11, "isCopyKind", "(I)Z"⟩, ⟨am_on 12, "<init>", "()V"⟩, ⟨am_on 12, "in", "(JJJ)Z"⟩, ⟨am_on 12, "of", "(II)I"⟩, ⟨am_on 12, "isPerson", "(I)Z"⟩, ⟨am_on 12, "isAwake", "(I)Z"⟩, ⟨am_on 12, "isCopy", "(I)Z"⟩, ⟨am_on 12, "awakeMany", "()I"⟩, ⟨am_on 12, "divisor", "(JJ)J"⟩, ⟨am_on 12, "part", "(JJI)J"⟩, ⟨am_on 12, "event", "(II)V"⟩]
def pg_nm_10 : List (MethodName) := [⟨am_on 12, "later", "(I)I"⟩, ⟨am_on 12, "hasRoom", "()Z"⟩, ⟨am_on 12, "comes", "(IIII)I"⟩, ⟨am_on 12, "born", "()I"⟩, ⟨am_on 12, "copies", "(IIIIZ)I"⟩, ⟨am_on 12, "copied", "(IIIIZ)I"⟩, ⟨am_on 12, "wake", "(I)I"⟩, ⟨am_on 12, "joins", "(II)I"⟩, ⟨am_on 12, "join", "(II)I"⟩, ⟨am_on 12, "ends", "(I)V"⟩, ⟨am_on 12, "end", "(I)I"⟩, ⟨am_on 12, "rootOf", "(I)I"⟩, ⟨am_on 12, "isVoid", "(I)Z"⟩, ⟨am_on 12, "person", "(II)I"⟩, ⟨am_on 12, "above", "(I)I"⟩, ⟨am_on 12, "kin", "(I)I"⟩]
def pg_nm_11 : List (MethodName) := [⟨am_on 12, "common", "(II)I"⟩, ⟨am_on 12, "feed", "(JI)I"⟩, ⟨am_on 12, "byteAt", "(I)I"⟩, ⟨am_on 12, "isLetter", "(I)Z"⟩, ⟨am_on 12, "isDigit", "(I)Z"⟩, ⟨am_on 12, "next", "()V"⟩, ⟨am_on 12, "needs", "(Z)V"⟩, ⟨am_on 12, "emits", "(I)V"⟩, ⟨am_on 12, "isAt", "(II)Z"⟩, ⟨am_on 12, "isName", "(IIIIII)Z"⟩, ⟨am_on 12, "keyHere", "()I"⟩, ⟨am_on 12, "valueHere", "(I)I"⟩, ⟨am_on 12, "factHere", "()I"⟩, ⟨am_on 12, "value", "()V"⟩, ⟨am_on 12, "single", "()V"⟩, ⟨am_on 12, "every", "()V"⟩]
def pg_nm_12 : List (MethodName) := [⟨am_on 12, "condition", "()V"⟩, ⟨am_on 12, "oneClause", "()V"⟩, ⟨am_on 12, "law", "()I"⟩, ⟨am_on 12, "both", "(III)I"⟩, ⟨am_on 12, "holds", "(I)Z"⟩, ⟨am_on 12, "byFacts", "(I)I"⟩, ⟨am_on 12, "onEvent", "(III)I"⟩, ⟨am_on 12, "nowAbout", "(II)I"⟩, ⟨am_on 12, "says", "(II)I"⟩, ⟨am_on 12, "newClaim", "(III)I"⟩, ⟨am_on 12, "claim", "(III)I"⟩, ⟨am_on 12, "isClaim", "(I)Z"⟩, ⟨am_on 12, "claimOf", "(II)I"⟩, ⟨am_on 12, "goesBy", "(I)V"⟩, ⟨am_on 12, "nobodyStands", "()V"⟩, ⟨am_on 12, "moves", "(II)Z"⟩]
def pg_nm_13 : List (MethodName) := [⟨am_on 12, "capped", "(J)J"⟩, ⟨am_on 12, "sharesBy", "(II)V"⟩, ⟨am_on 12, "findShares", "(I)V"⟩, ⟨am_on 12, "share", "(III)J"⟩, ⟨am_on 12, "totalOf", "(II)J"⟩, ⟨am_on 12, "total", "(III)J"⟩, ⟨am_on 12, "isDeed", "(I)Z"⟩, ⟨am_on 12, "deed", "(I)I"⟩, ⟨am_on 12, "rememberers", "(I)I"⟩, ⟨am_on 12, "remembers", "(II)I"⟩, ⟨am_on 12, "counts", "(I)Z"⟩, ⟨am_on 12, "bodyOf", "(I)I"⟩, ⟨am_on 12, "blame", "(I)I"⟩, ⟨am_on 12, "apart", "(II)I"⟩, ⟨am_on 12, "bits", "(I)I"⟩, ⟨am_on 12, "tellsApart", "(I)Z"⟩]
def pg_nm_14 : List (MethodName) := [⟨am_on 12, "fewest", "(I)I"⟩, ⟨am_on 12, "sideBy", "(III)I"⟩, ⟨am_on 12, "findSides", "(I)V"⟩, ⟨am_on 12, "weddedTo", "(I)I"⟩, ⟨am_on 12, "wed", "(II)I"⟩, ⟨am_on 12, "wedTo", "(I)I"⟩, ⟨am_on 12, "findRoot", "(I)V"⟩, ⟨am_on 12, "voteOf", "(I)I"⟩, ⟨am_on 12, "votes", "(II)I"⟩, ⟨am_on 12, "rooted", "(I)I"⟩, ⟨am_on 12, "leaves", "()V"⟩, ⟨am_on 12, "returns", "()V"⟩, ⟨am_on 12, "paysBy", "(II)J"⟩, ⟨am_on 12, "pays", "(II)J"⟩, ⟨am_on 12, "lender", "(III)J"⟩, ⟨am_on 12, "seed", "(I)I"⟩]
def pg_nm_15 : List (MethodName) := [⟨am_on 12, "call", "()I"⟩, ⟨am_on 12, "prove", "(I)I"⟩, ⟨am_on 12, "row", "(II)J"⟩, ⟨am_on 12, "alterRow", "(IIJ)J"⟩, ⟨am_on 12, "judge", "(I)I"⟩, ⟨am_on 12, "isOne", "(I)Z"⟩, ⟨am_on 12, "sheet", "(III)I"⟩, ⟨am_on 12, "narrowed", "(II)I"⟩, ⟨am_on 12, "put", "(III)I"⟩, ⟨am_on 12, "taking", "(II)I"⟩, ⟨am_on 12, "item", "(III)I"⟩, ⟨am_on 12, "debts", "(IIII)I"⟩, ⟨am_on 12, "shelf", "(III)I"⟩, ⟨am_on 12, "takes", "(I)V"⟩, ⟨am_on 12, "isUnder", "(II)Z"⟩, ⟨am_on 12, "taken", "(II)I"⟩]
def pg_nm_16 : List (MethodName) := [⟨am_on 12, "ran", "(I)V"⟩, ⟨am_on 12, "anyBears", "(I)I"⟩, ⟨am_on 12, "copyBears", "(I)I"⟩, ⟨am_on 12, "bears", "(I)I"⟩, ⟨am_on 12, "anyKnows", "(I)I"⟩, ⟨am_on 12, "knows", "(I)I"⟩, ⟨am_on 12, "anyShares", "(I)I"⟩, ⟨am_on 12, "parts", "(I)I"⟩, ⟨am_on 12, "anyTells", "(I)I"⟩, ⟨am_on 12, "tells", "(I)I"⟩, ⟨am_on 12, "act", "(III)I"⟩, ⟨am_on 12, "trace", "(I)I"⟩, ⟨am_on 12, "many", "(I)I"⟩, ⟨am_on 12, "keep", "()I"⟩, ⟨am_on 12, "again", "()I"⟩, ⟨am_on 41, "bitCount", "(I)I"⟩]
def pg_nm_17 : List (MethodName) := [⟨am_on 42, "max", "(JJ)J"⟩, ⟨am_on 42, "min", "(JJ)J"⟩, ⟨am_on 40, "law", "([I)Z"⟩]
def pg_nm : Nat → MethodName := fun m => pg_at ⟨"", "", ""⟩ (pg_at [] [pg_nm_0, pg_nm_1, pg_nm_2, pg_nm_3, pg_nm_4, pg_nm_5, pg_nm_6, pg_nm_7, pg_nm_8, pg_nm_9, pg_nm_10, pg_nm_11, pg_nm_12, pg_nm_13, pg_nm_14, pg_nm_15, pg_nm_16, pg_nm_17] (m / 16)) (m % 16)
def pg_by_0 : List (ByteArray) := [prog_2_method_1_code, prog_2_method_2_code, prog_2_method_3_code, prog_2_method_4_code, prog_2_method_5_code, prog_3_method_1_code, prog_3_method_2_code, prog_4_method_1_code, prog_4_method_2_code, prog_5_method_1_code, prog_5_method_2_code, prog_5_method_3_code, prog_5_method_4_code, prog_5_method_5_code, prog_5_method_6_code, prog_5_method_7_code]
def pg_by_1 : List (ByteArray) := [prog_5_method_8_code, prog_5_method_9_code, prog_6_method_1_code, prog_6_method_2_code, prog_6_method_3_code, prog_6_method_4_code, prog_6_method_5_code, prog_6_method_6_code, prog_6_method_7_code, prog_6_method_8_code, prog_6_method_9_code, prog_6_method_10_code, prog_6_method_11_code, prog_6_method_12_code, prog_6_method_13_code, prog_6_method_14_code]
def pg_by_2 : List (ByteArray) := [prog_6_method_15_code, prog_7_method_1_code, prog_7_method_2_code, prog_7_method_3_code, prog_7_method_4_code, prog_7_method_5_code, prog_7_method_6_code, prog_7_method_7_code, prog_8_method_1_code, prog_8_method_2_code, prog_8_method_3_code, prog_8_method_4_code, prog_8_method_5_code, prog_8_method_6_code, prog_8_method_7_code, prog_8_method_8_code]
def pg_by_3 : List (ByteArray) := [prog_8_method_9_code, prog_8_method_10_code, prog_8_method_11_code, prog_8_method_12_code, prog_8_method_13_code, prog_8_method_14_code, prog_9_method_1_code, prog_9_method_2_code, prog_9_method_3_code, prog_10_method_1_code, prog_10_method_2_code, prog_10_method_3_code, prog_10_method_4_code, prog_11_method_1_code, prog_11_method_2_code, prog_12_method_1_code]
def pg_by_4 : List (ByteArray) := [prog_12_method_2_code, prog_12_method_3_code, prog_12_method_4_code, prog_12_method_5_code, prog_12_method_6_code, prog_12_method_7_code, prog_12_method_8_code, prog_12_method_9_code, prog_12_method_10_code, prog_12_method_11_code, prog_12_method_12_code, prog_12_method_13_code, prog_12_method_14_code, prog_12_method_15_code, prog_12_method_16_code, prog_12_method_17_code]
def pg_by_5 : List (ByteArray) := [prog_12_method_18_code, prog_12_method_19_code, prog_12_method_20_code, prog_12_method_21_code, prog_12_method_22_code, prog_12_method_23_code, prog_12_method_24_code, prog_12_method_25_code, prog_12_method_26_code, prog_12_method_27_code, prog_12_method_28_code, prog_1_method_1_code, prog_1_method_2_code, prog_1_method_3_code, prog_1_method_4_code, prog_1_method_5_code]
def pg_by_6 : List (ByteArray) := [prog_1_method_6_code, prog_1_method_7_code, prog_1_method_8_code, prog_1_method_9_code, prog_1_method_10_code, prog_1_method_11_code, prog_1_method_12_code, prog_1_method_13_code, prog_1_method_14_code, prog_1_method_15_code, prog_1_method_16_code, prog_1_method_17_code, prog_1_method_18_code, prog_1_method_19_code, prog_1_method_20_code, prog_1_method_21_code]
def pg_by_7 : List (ByteArray) := [prog_1_method_22_code, prog_1_method_23_code, prog_1_method_24_code, prog_1_method_25_code, prog_1_method_26_code, prog_1_method_27_code, prog_1_method_28_code, prog_1_method_29_code, prog_1_method_30_code, prog_1_method_31_code, prog_1_method_32_code, prog_1_method_33_code, prog_1_method_34_code, prog_1_method_35_code, prog_1_method_36_code, prog_1_method_37_code]
def pg_by_8 : List (ByteArray) := [prog_1_method_38_code, prog_1_method_39_code, prog_1_method_40_code, prog_1_method_41_code, prog_1_method_42_code, prog_1_method_43_code, prog_1_method_44_code, prog_1_method_45_code, prog_1_method_46_code, prog_1_method_47_code, prog_1_method_48_code, prog_1_method_49_code, prog_1_method_50_code, prog_1_method_51_code, prog_1_method_52_code, prog_1_method_53_code]
def pg_by_9 : List (ByteArray) := [prog_1_method_54_code, prog_1_method_55_code, prog_1_method_56_code, prog_1_method_57_code, prog_1_method_58_code, prog_1_method_59_code, prog_14_method_1_code, prog_14_method_2_code, prog_14_method_3_code, prog_14_method_4_code, prog_14_method_5_code, prog_14_method_6_code, prog_14_method_7_code, prog_14_method_8_code, prog_14_method_9_code, prog_14_method_10_code]
def pg_by_10 : List (ByteArray) := [prog_14_method_11_code, prog_14_method_12_code, prog_14_method_13_code, prog_14_method_14_code, prog_14_method_15_code, prog_14_method_16_code, prog_14_method_17_code, prog_14_method_18_code, prog_14_method_19_code, prog_14_method_20_code, prog_14_method_21_code, prog_14_method_22_code, prog_14_method_23_code, prog_14_method_24_code, prog_14_method_25_code, prog_14_method_26_code]
def pg_by_11 : List (ByteArray) := [prog_14_method_27_code, prog_14_method_28_code, prog_14_method_29_code, prog_14_method_30_code, prog_14_method_31_code, prog_14_method_32_code, prog_14_method_33_code, prog_14_method_34_code, prog_14_method_35_code, prog_14_method_36_code, prog_14_method_37_code, prog_14_method_38_code, prog_14_method_39_code, prog_14_method_40_code, prog_14_method_41_code, prog_14_method_42_code]
def pg_by_12 : List (ByteArray) := [prog_14_method_43_code, prog_14_method_44_code, prog_14_method_45_code, prog_14_method_46_code, prog_14_method_47_code, prog_14_method_48_code, prog_14_method_49_code, prog_14_method_50_code, prog_14_method_51_code, prog_14_method_52_code, prog_14_method_53_code, prog_14_method_54_code, prog_14_method_55_code, prog_14_method_56_code, prog_14_method_57_code, prog_14_method_58_code]
def pg_by_13 : List (ByteArray) := [prog_14_method_59_code, prog_14_method_60_code, prog_14_method_61_code, prog_14_method_62_code, prog_14_method_63_code, prog_14_method_64_code, prog_14_method_65_code, prog_14_method_66_code, prog_14_method_67_code, prog_14_method_68_code, prog_14_method_69_code, prog_14_method_70_code, prog_14_method_71_code, prog_14_method_72_code, prog_14_method_73_code, prog_14_method_74_code]
def pg_by_14 : List (ByteArray) := [prog_14_method_75_code, prog_14_method_76_code, prog_14_method_77_code, prog_14_method_78_code, prog_14_method_79_code, prog_14_method_80_code, prog_14_method_81_code, prog_14_method_82_code, prog_14_method_83_code, prog_14_method_84_code, prog_14_method_85_code, prog_14_method_86_code, prog_14_method_87_code, prog_14_method_88_code, prog_14_method_89_code, prog_14_method_90_code]
def pg_by_15 : List (ByteArray) := [prog_14_method_91_code, prog_14_method_92_code, prog_14_method_93_code, prog_14_method_94_code, prog_14_method_95_code, prog_14_method_96_code, prog_14_method_97_code, prog_14_method_98_code, prog_14_method_99_code, prog_14_method_100_code, prog_14_method_101_code, prog_14_method_102_code, prog_14_method_103_code, prog_14_method_104_code, prog_14_method_105_code, prog_14_method_106_code]
def pg_by_16 : List (ByteArray) := [prog_14_method_107_code, prog_14_method_108_code, prog_14_method_109_code, prog_14_method_110_code, prog_14_method_111_code, prog_14_method_112_code, prog_14_method_113_code, prog_14_method_114_code, prog_14_method_115_code, prog_14_method_116_code, prog_14_method_117_code, prog_14_method_118_code, prog_14_method_119_code, prog_14_method_120_code, prog_14_method_121_code, prog_15_method_49_code]
def pg_by_17 : List (ByteArray) := [prog_16_method_66_code, prog_16_method_70_code, code]
def pg_by : Nat → ByteArray := fun m => pg_at code (pg_at [] [pg_by_0, pg_by_1, pg_by_2, pg_by_3, pg_by_4, pg_by_5, pg_by_6, pg_by_7, pg_by_8, pg_by_9, pg_by_10, pg_by_11, pg_by_12, pg_by_13, pg_by_14, pg_by_15, pg_by_16, pg_by_17] (m / 16)) (m % 16)
def pg_rt_0 : List (Option FieldType) := [none, none, some .int, some .int, some .int, none, none, none, none, none, some (.object "java/lang/String"), none, none, none, none, some .int]
def pg_rt_1 : List (Option FieldType) := [some .boolean, some .boolean, none, none, some .boolean, some .boolean, some .boolean, some .boolean, some .boolean, some .boolean, some .int, none, none, some .boolean, some .int, some .boolean]
def pg_rt_2 : List (Option FieldType) := [some .boolean, none, some .long, some .long, some .int, none, none, none, none, none, some .int, some .int, some .int, some .int, some .boolean, some .int]
def pg_rt_3 : List (Option FieldType) := [some .int, some .int, some .int, some .boolean, some .int, some .int, none, none, none, none, some .int, some .int, some .int, none, none, none]
def pg_rt_4 : List (Option FieldType) := [none, some .boolean, some .boolean, some .boolean, some .boolean, some .boolean, some .int, some .boolean, some .boolean, some .int, some .int, some .int, some .int, some .int, some .int, none]
def pg_rt_5 : List (Option FieldType) := [none, some .int, some .int, some .int, none, none, some .int, some .int, some .boolean, some .int, some .int, none, some .int, some .int, some .int, some .int]
def pg_rt_6 : List (Option FieldType) := [some .int, some .int, some .int, some .int, some .int, some .int, some .int, some .int, some .int, some .int, some .long, some .long, some .int, some .int, some .int, some .int]
def pg_rt_7 : List (Option FieldType) := [some .int, some .int, some .int, some .int, some .int, some .long, some .int, some .long, some .int, some .int, some .int, some .long, some .long, some .int, some .boolean, some .boolean]
def pg_rt_8 : List (Option FieldType) := [some .int, some .int, some .int, some .int, some .int, some .int, some .int, some .int, some .int, some .int, some .int, some .int, some .int, some .int, some .int, some .boolean]
def pg_rt_9 : List (Option FieldType) := [some .int, some .boolean, some .boolean, some .boolean, some .boolean, some .boolean, none, some .boolean, some .int, some .boolean, some .boolean, some .boolean, some .int, some .long, some .long, none]
def pg_rt_10 : List (Option FieldType) := [some .int, some .boolean, some .int, some .int, some .int, some .int, some .int, some .int, some .int, none, some .int, some .int, some .boolean, some .int, some .int, some .int]
def pg_rt_11 : List (Option FieldType) := [some .int, some .int, some .int, some .boolean, some .boolean, none, none, none, some .boolean, some .boolean, some .int, some .int, some .int, none, none, none]
def pg_rt_12 : List (Option FieldType) := [none, none, some .int, some .int, some .boolean, some .int, some .int, some .int, some .int, some .int, some .int, some .boolean, some .int, none, none, some .boolean]
def pg_rt_13 : List (Option FieldType) := [some .long, none, none, some .long, some .long, some .long, some .boolean, some .int, some .int, some .int, some .boolean, some .int, some .int, some .int, some .int, some .boolean]
def pg_rt_14 : List (Option FieldType) := [some .int, some .int, none, some .int, some .int, some .int, none, some .int, some .int, some .int, none, none, some .long, some .long, some .long, some .int]
def pg_rt_15 : List (Option FieldType) := [some .int, some .int, some .long, some .long, some .int, some .boolean, some .int, some .int, some .int, some .int, some .int, some .int, some .int, none, some .boolean, some .int]
def pg_rt_16 : List (Option FieldType) := [none, some .int, some .int, some .int, some .int, some .int, some .int, some .int, some .int, some .int, some .int, some .int, some .int, some .int, some .int, some .int]
def pg_rt_17 : List (Option FieldType) := [some .long, some .long, some .boolean]
def pg_rt : Nat → Option FieldType := fun m => pg_at none (pg_at [] [pg_rt_0, pg_rt_1, pg_rt_2, pg_rt_3, pg_rt_4, pg_rt_5, pg_rt_6, pg_rt_7, pg_rt_8, pg_rt_9, pg_rt_10, pg_rt_11, pg_rt_12, pg_rt_13, pg_rt_14, pg_rt_15, pg_rt_16, pg_rt_17] (m / 16)) (m % 16)
def pg_ow_0 : List (Nat) := [0, 0, 0, 0, 0, 1, 1, 2, 2, 3, 3, 3, 3, 3, 3, 3]
def pg_ow_1 : List (Nat) := [3, 3, 4, 4, 4, 4, 4, 4, 4, 4, 4, 4, 4, 4, 4, 4]
def pg_ow_2 : List (Nat) := [4, 5, 5, 5, 5, 5, 5, 5, 6, 6, 6, 6, 6, 6, 6, 6]
def pg_ow_3 : List (Nat) := [6, 6, 6, 6, 6, 6, 7, 7, 7, 8, 8, 8, 8, 9, 9, 10]
def pg_ow_4 : List (Nat) := [10, 10, 10, 10, 10, 10, 10, 10, 10, 10, 10, 10, 10, 10, 10, 10]
def pg_ow_5 : List (Nat) := [10, 10, 10, 10, 10, 10, 10, 10, 10, 10, 10, 11, 11, 11, 11, 11]
def pg_ow_6 : List (Nat) := [11, 11, 11, 11, 11, 11, 11, 11, 11, 11, 11, 11, 11, 11, 11, 11]
def pg_ow_7 : List (Nat) := [11, 11, 11, 11, 11, 11, 11, 11, 11, 11, 11, 11, 11, 11, 11, 11]
def pg_ow_8 : List (Nat) := [11, 11, 11, 11, 11, 11, 11, 11, 11, 11, 11, 11, 11, 11, 11, 11]
def pg_ow_9 : List (Nat) := [11, 11, 11, 11, 11, 11, 12, 12, 12, 12, 12, 12, 12, 12, 12, 12]
def pg_ow_10 : List (Nat) := [12, 12, 12, 12, 12, 12, 12, 12, 12, 12, 12, 12, 12, 12, 12, 12]
def pg_ow_11 : List (Nat) := [12, 12, 12, 12, 12, 12, 12, 12, 12, 12, 12, 12, 12, 12, 12, 12]
def pg_ow_12 : List (Nat) := [12, 12, 12, 12, 12, 12, 12, 12, 12, 12, 12, 12, 12, 12, 12, 12]
def pg_ow_13 : List (Nat) := [12, 12, 12, 12, 12, 12, 12, 12, 12, 12, 12, 12, 12, 12, 12, 12]
def pg_ow_14 : List (Nat) := [12, 12, 12, 12, 12, 12, 12, 12, 12, 12, 12, 12, 12, 12, 12, 12]
def pg_ow_15 : List (Nat) := [12, 12, 12, 12, 12, 12, 12, 12, 12, 12, 12, 12, 12, 12, 12, 12]
def pg_ow_16 : List (Nat) := [12, 12, 12, 12, 12, 12, 12, 12, 12, 12, 12, 12, 12, 12, 12, 41]
def pg_ow_17 : List (Nat) := [42, 42, 40]
def pg_ow : Nat → Nat := fun m => pg_at 0 (pg_at [] [pg_ow_0, pg_ow_1, pg_ow_2, pg_ow_3, pg_ow_4, pg_ow_5, pg_ow_6, pg_ow_7, pg_ow_8, pg_ow_9, pg_ow_10, pg_ow_11, pg_ow_12, pg_ow_13, pg_ow_14, pg_ow_15, pg_ow_16, pg_ow_17] (m / 16)) (m % 16)
def pg_is_0 : List (Bool) := [false, false, false, false, false, false, false, false, false, false, true, false, false, false, false, false]
def pg_is_1 : List (Bool) := [false, true, false, false, false, false, false, false, false, false, false, false, false, false, false, true]
def pg_is_2 : List (Bool) := [true, false, true, false, false, false, false, false, false, false, false, false, false, false, false, false]
def pg_is_3 : List (Bool) := [false, false, false, false, false, false, false, false, false, false, false, false, false, false, false, false]
def pg_is_4 : List (Bool) := [false, false, false, false, false, false, false, false, false, false, false, false, false, false, false, false]
def pg_is_5 : List (Bool) := [false, false, false, false, false, false, false, false, false, false, false, false, false, false, false, false]
def pg_is_6 : List (Bool) := [false, false, false, false, false, false, false, false, false, false, false, false, false, false, false, false]
def pg_is_7 : List (Bool) := [false, false, false, false, false, false, false, false, false, false, false, false, false, false, false, false]
def pg_is_8 : List (Bool) := [false, false, false, false, false, false, false, false, false, false, false, false, false, false, false, true]
def pg_is_9 : List (Bool) := [true, true, true, true, true, true, false, true, false, false, false, false, false, true, true, false]
def pg_is_10 : List (Bool) := [false, false, false, false, false, false, false, false, false, false, false, false, false, false, false, false]
def pg_is_11 : List (Bool) := [false, false, false, true, true, false, false, false, false, false, false, false, false, false, false, false]
def pg_is_12 : List (Bool) := [false, false, false, true, false, false, false, false, false, false, false, false, false, false, false, false]
def pg_is_13 : List (Bool) := [true, false, false, false, false, false, false, false, false, false, false, false, false, false, true, false]
def pg_is_14 : List (Bool) := [false, false, false, false, false, false, false, false, false, false, false, false, false, false, false, false]
def pg_is_15 : List (Bool) := [false, false, false, false, false, true, false, true, false, false, false, false, false, false, true, false]
def pg_is_16 : List (Bool) := [false, false, false, false, false, false, false, false, false, false, false, false, false, false, false, true]
def pg_is_17 : List (Bool) := [true, true, true]
def pg_is : Nat → Bool := fun m => pg_at true (pg_at [] [pg_is_0, pg_is_1, pg_is_2, pg_is_3, pg_is_4, pg_is_5, pg_is_6, pg_is_7, pg_is_8, pg_is_9, pg_is_10, pg_is_11, pg_is_12, pg_is_13, pg_is_14, pg_is_15, pg_is_16, pg_is_17] (m / 16)) (m % 16)
def ph_0 : List (List (Nat × Nat × Nat × Nat)) := [[(0, 1, 0, 1), (1, 0, 3, 3), (4, 1, 0, 1), (5, 1, 0, 2), (7, 0, 0, 2), (9, 0, 9, 3), (12, 0, 0, 1), (13, 0, 0, 0)]]
def ph_1 : List (List (Nat × Nat × Nat × Nat)) := [[(0, 1, 0, 1), (1, 0, 0, 1), (2, 0, 15, 3), (5, 1, 0, 1), (6, 0, 0, 1), (7, 0, 19, 3), (10, 0, 0, 1), (11, 0, 0, 0)]]
def ph_2 : List (List (Nat × Nat × Nat × Nat)) := [[(0, 1, 0, 1), (1, 1, 0, 1), (2, 0, 23, 3), (5, 1, 0, 1), (6, 1, 0, 1), (7, 0, 26, 3), (10, 1, 0, 1), (11, 1, 0, 1), (12, 0, 29, 3), (15, 0, 0, 2), (17, 0, 0, 3), (20, 0, 32, 3), (23, 1, 0, 1), (24, 0, 23, 3), (27, 0, 0, 1), (28, 0, 0, 3)], [(31, 0, 0, 2), (33, 0, 0, 1), (34, 0, 0, 3), (37, 0, 35, 3), (40, 1, 0, 1), (41, 0, 23, 3), (44, 0, 0, 1), (45, 0, 0, 3), (48, 0, 0, 2), (50, 0, 0, 1), (51, 0, 0, 3), (54, 0, 38, 3), (57, 1, 0, 1), (58, 0, 23, 3), (61, 0, 0, 1), (62, 0, 0, 3)], [(65, 0, 41, 3), (68, 1, 0, 1), (69, 0, 23, 3), (72, 0, 0, 1), (73, 0, 0, 2), (75, 1, 0, 1), (76, 0, 0, 2), (78, 0, 0, 2), (80, 0, 0, 1), (81, 0, 44, 3), (84, 0, 0, 2), (86, 1, 0, 1), (87, 0, 19, 3), (90, 0, 0, 3), (93, 1, 0, 2), (95, 0, 0, 3)], [(98, 0, 0, 2), (100, 0, 0, 1), (101, 0, 0, 0)]]
def ph_3 : List (List (Nat × Nat × Nat × Nat)) := [[(0, 1, 0, 1), (1, 1, 0, 2), (3, 0, 0, 3), (6, 0, 0, 1), (7, 0, 0, 1), (8, 1, 0, 1), (9, 0, 15, 3), (12, 1, 0, 1), (13, 0, 9, 3), (16, 0, 0, 1), (17, 0, 0, 3), (20, 1, 0, 1), (21, 0, 9, 3), (24, 1, 0, 1), (25, 0, 15, 3), (28, 1, 0, 1)], [(29, 0, 0, 1), (30, 1, 0, 1), (31, 0, 0, 1), (32, 0, 15, 3), (35, 0, 0, 1), (36, 0, 0, 1), (37, 0, 15, 3), (40, 1, 0, 1), (41, 0, 0, 1), (42, 0, 0, 1), (43, 0, 0, 2), (45, 1, 0, 1), (46, 0, 0, 138), (184, 1, 0, 1), (185, 1, 0, 1), (186, 0, 29, 3)], [(189, 0, 0, 1), (190, 0, 0, 1), (191, 1, 0, 1), (192, 0, 32, 3), (195, 1, 0, 1), (196, 0, 23, 3), (199, 0, 0, 1), (200, 1, 0, 1), (201, 0, 0, 2), (203, 0, 44, 3), (206, 0, 0, 1), (207, 0, 0, 1), (208, 0, 0, 1), (209, 1, 0, 1), (210, 1, 0, 1), (211, 0, 48, 3)], [(214, 0, 0, 1), (215, 1, 0, 1), (216, 0, 35, 3), (219, 1, 0, 1), (220, 0, 23, 3), (223, 0, 0, 1), (224, 1, 0, 1), (225, 0, 0, 2), (227, 0, 44, 3), (230, 1, 0, 1), (231, 0, 26, 3), (234, 0, 0, 1), (235, 0, 0, 1), (236, 1, 0, 1), (237, 1, 0, 2), (239, 1, 0, 1)], [(240, 0, 0, 2), (242, 0, 44, 3), (245, 0, 0, 1), (246, 0, 0, 1), (247, 0, 0, 1), (248, 1, 0, 1), (249, 1, 0, 2), (251, 1, 0, 1), (252, 0, 0, 2), (254, 0, 44, 3), (257, 0, 0, 1), (258, 0, 0, 1), (259, 0, 0, 1), (260, 1, 0, 1), (261, 1, 0, 2), (263, 1, 0, 1)], [(264, 0, 0, 2), (266, 0, 44, 3), (269, 1, 0, 1), (270, 0, 38, 3), (273, 1, 0, 1), (274, 0, 23, 3), (277, 0, 0, 1), (278, 1, 0, 1), (279, 0, 26, 3), (282, 0, 0, 2), (284, 0, 44, 3), (287, 0, 0, 1), (288, 0, 0, 1), (289, 1, 0, 1), (290, 1, 0, 2), (292, 1, 0, 1)], [(293, 0, 0, 2), (295, 0, 44, 3), (298, 1, 0, 1), (299, 0, 26, 3), (302, 0, 0, 1), (303, 0, 0, 1), (304, 1, 0, 1), (305, 1, 0, 2), (307, 1, 0, 1), (308, 0, 0, 1), (309, 0, 0, 1), (310, 0, 0, 2), (312, 0, 44, 3), (315, 0, 0, 1), (316, 0, 0, 1), (317, 1, 0, 1)], [(318, 1, 0, 2), (320, 1, 0, 1), (321, 0, 0, 2), (323, 0, 44, 3), (326, 0, 0, 1), (327, 0, 0, 1), (328, 1, 0, 1), (329, 1, 0, 2), (331, 1, 0, 1), (332, 0, 0, 2), (334, 0, 44, 3), (337, 1, 0, 1), (338, 0, 29, 3), (341, 0, 0, 1), (342, 0, 0, 1), (343, 1, 0, 1)], [(344, 1, 0, 2), (346, 1, 0, 1), (347, 0, 0, 2), (349, 0, 44, 3), (352, 0, 0, 1), (353, 0, 0, 1), (354, 0, 0, 1), (355, 1, 0, 1), (356, 0, 29, 3), (359, 1, 0, 1), (360, 0, 0, 1), (361, 0, 0, 1), (362, 1, 0, 1), (363, 0, 32, 3), (366, 1, 0, 1), (367, 0, 23, 3)], [(370, 0, 0, 1), (371, 1, 0, 1), (372, 0, 0, 2), (374, 0, 44, 3), (377, 1, 0, 1), (378, 0, 26, 3), (381, 0, 0, 1), (382, 0, 0, 1), (383, 1, 0, 1), (384, 1, 0, 1), (385, 0, 29, 3), (388, 0, 0, 1), (389, 0, 0, 1), (390, 1, 0, 1), (391, 0, 35, 3), (394, 1, 0, 1)], [(395, 0, 23, 3), (398, 0, 0, 1), (399, 1, 0, 1), (400, 0, 0, 2), (402, 0, 44, 3), (405, 1, 0, 1), (406, 0, 38, 3), (409, 1, 0, 1), (410, 0, 23, 3), (413, 0, 0, 1), (414, 1, 0, 1), (415, 0, 26, 3), (418, 0, 0, 2), (420, 0, 44, 3), (423, 0, 0, 1), (424, 0, 0, 1)], [(425, 0, 0, 1), (426, 0, 0, 1), (427, 0, 0, 0)]]
def ph_4 : List (List (Nat × Nat × Nat × Nat)) := [[(0, 1, 0, 1), (1, 0, 29, 3), (4, 1, 0, 1), (5, 0, 26, 3), (8, 0, 0, 3), (11, 1, 0, 1), (12, 0, 0, 1), (13, 0, 19, 3), (16, 0, 0, 1), (17, 0, 0, 1), (18, 1, 0, 1), (19, 1, 0, 1), (20, 0, 29, 3), (23, 1, 0, 1), (24, 0, 26, 3), (27, 0, 0, 1)], [(28, 0, 0, 1), (29, 0, 0, 1), (30, 0, 0, 0)]]
def ph_5 : List (List (Nat × Nat × Nat × Nat)) := [[(0, 1, 0, 1), (1, 0, 1, 3), (4, 0, 0, 1), (5, 0, 0, 0)]]
def ph_6 : List (List (Nat × Nat × Nat × Nat)) := [[(0, 1, 0, 1), (1, 1, 0, 1), (2, 0, 7, 3), (5, 1, 0, 1), (6, 1, 0, 1), (7, 0, 13, 3), (10, 1, 0, 1), (11, 1, 0, 1), (12, 0, 16, 3), (15, 1, 0, 1), (16, 0, 0, 2), (18, 0, 19, 3), (21, 1, 0, 1), (22, 0, 0, 2), (24, 0, 22, 3), (27, 0, 0, 1)], [(28, 0, 0, 0)]]
def ph_7 : List (List (Nat × Nat × Nat × Nat)) := [[(0, 1, 0, 1), (1, 0, 1, 3), (4, 0, 0, 1), (5, 0, 0, 0)]]
def ph_8 : List (List (Nat × Nat × Nat × Nat)) := [[(0, 1, 0, 1), (1, 1, 0, 1), (2, 0, 7, 3), (5, 1, 0, 1), (6, 1, 0, 1), (7, 0, 13, 3), (10, 1, 0, 1), (11, 1, 0, 1), (12, 0, 16, 3), (15, 0, 0, 1), (16, 0, 0, 0)]]
def ph_9 : List (List (Nat × Nat × Nat × Nat)) := [[(0, 1, 0, 1), (1, 0, 3, 3), (4, 1, 0, 1), (5, 1, 0, 2), (7, 0, 0, 2), (9, 0, 11, 3), (12, 1, 0, 1), (13, 1, 0, 2), (15, 0, 0, 2), (17, 0, 15, 3), (20, 1, 0, 1), (21, 1, 0, 2), (23, 0, 0, 2), (25, 0, 18, 3), (28, 1, 0, 1), (29, 2, 0, 3)], [(32, 0, 0, 2), (34, 0, 21, 3), (37, 0, 0, 1), (38, 0, 0, 0)]]
def ph_10 : List (List (Nat × Nat × Nat × Nat)) := [[(0, 1, 0, 1), (1, 0, 0, 39), (40, 0, 24, 2), (42, 0, 0, 1), (43, 0, 26, 2), (45, 0, 0, 1), (46, 0, 28, 2), (48, 0, 0, 1), (49, 0, 30, 2), (51, 0, 0, 1), (52, 0, 32, 2), (54, 0, 0, 1), (55, 0, 34, 2), (57, 0, 0, 1), (58, 0, 0, 0)]]
def ph_11 : List (List (Nat × Nat × Nat × Nat)) := [[(0, 1, 0, 1), (1, 0, 0, 1), (2, 0, 36, 3), (5, 1, 0, 1), (6, 0, 18, 3), (9, 0, 0, 1), (10, 0, 0, 1), (11, 0, 0, 1), (12, 1, 0, 1), (13, 0, 18, 3), (16, 0, 0, 1), (17, 0, 0, 1), (18, 0, 0, 1), (19, 0, 0, 1), (20, 0, 0, 0)]]
def ph_12 : List (List (Nat × Nat × Nat × Nat)) := [[(0, 1, 0, 1), (1, 0, 18, 3), (4, 1, 0, 1), (5, 0, 36, 3), (8, 0, 0, 1), (9, 0, 0, 1), (10, 0, 0, 1), (11, 1, 0, 1), (12, 1, 0, 1), (13, 1, 0, 1), (14, 0, 21, 3), (17, 0, 0, 1), (18, 0, 0, 3), (21, 0, 0, 1), (22, 1, 0, 1), (23, 0, 21, 3)], [(26, 1, 0, 1), (27, 1, 0, 1), (28, 0, 0, 1), (29, 1, 0, 1), (30, 0, 18, 3), (33, 1, 0, 1), (34, 0, 36, 3), (37, 0, 0, 1), (38, 0, 0, 1), (39, 1, 0, 1), (40, 0, 0, 1), (41, 0, 0, 1), (42, 0, 0, 1), (43, 0, 0, 1), (44, 0, 0, 0)]]
def ph_13 : List (List (Nat × Nat × Nat × Nat)) := [[(0, 1, 0, 1), (1, 0, 11, 3), (4, 1, 0, 1), (5, 0, 36, 3), (8, 1, 0, 1), (9, 0, 0, 1), (10, 1, 0, 1), (11, 0, 15, 3), (14, 1, 0, 1), (15, 0, 36, 3), (18, 1, 0, 1), (19, 0, 0, 1), (20, 1, 0, 1), (21, 0, 0, 1), (22, 0, 36, 3), (25, 0, 0, 1)], [(26, 0, 0, 1), (27, 0, 36, 3), (30, 1, 0, 1), (31, 0, 36, 3), (34, 1, 0, 2), (36, 0, 0, 3), (39, 1, 0, 1), (40, 0, 18, 3), (43, 1, 0, 1), (44, 0, 36, 3), (47, 0, 0, 1), (48, 0, 0, 1), (49, 1, 0, 1), (50, 0, 18, 3), (53, 1, 0, 1), (54, 0, 36, 3)], [(57, 0, 0, 1), (58, 0, 0, 1), (59, 0, 0, 1), (60, 0, 0, 0)]]
def ph_14 : List (List (Nat × Nat × Nat × Nat)) := [[(0, 1, 0, 1), (1, 1, 0, 1), (2, 0, 36, 3), (5, 0, 36, 3), (8, 1, 0, 1), (9, 0, 11, 3), (12, 0, 0, 1), (13, 1, 0, 1), (14, 0, 11, 3), (17, 0, 0, 1), (18, 1, 0, 1), (19, 0, 36, 3), (22, 0, 40, 3), (25, 1, 0, 1), (26, 0, 15, 3), (29, 0, 0, 1)], [(30, 1, 0, 1), (31, 0, 15, 3), (34, 0, 0, 1), (35, 1, 0, 1), (36, 0, 36, 3), (39, 0, 40, 3), (42, 1, 0, 1), (43, 0, 18, 3), (46, 0, 0, 1), (47, 1, 0, 1), (48, 0, 18, 3), (51, 0, 0, 1), (52, 1, 0, 1), (53, 0, 36, 3), (56, 0, 0, 1), (57, 0, 0, 1)], [(58, 0, 40, 3), (61, 1, 0, 1), (62, 0, 21, 3), (65, 0, 0, 1), (66, 1, 0, 1), (67, 0, 21, 3), (70, 0, 0, 1), (71, 1, 0, 1), (72, 0, 18, 3), (75, 1, 0, 1), (76, 0, 36, 3), (79, 0, 0, 1), (80, 0, 40, 3), (83, 0, 0, 1), (84, 0, 0, 0)]]
def ph_15 : List (List (Nat × Nat × Nat × Nat)) := [[(0, 1, 0, 1), (1, 0, 36, 3), (4, 0, 0, 1), (5, 0, 0, 1), (6, 1, 0, 1), (7, 1, 0, 1), (8, 0, 0, 3), (11, 1, 0, 1), (12, 0, 11, 3), (15, 1, 0, 1), (16, 0, 0, 1), (17, 1, 0, 1), (18, 0, 0, 3), (21, 1, 0, 1), (22, 1, 0, 1), (23, 1, 0, 1)], [(24, 0, 46, 3), (27, 0, 0, 3), (30, 1, 0, 1), (31, 0, 15, 3), (34, 1, 0, 1), (35, 0, 0, 1), (36, 0, 0, 1), (37, 0, 0, 3), (40, 0, 0, 3), (43, 0, 0, 1), (44, 0, 0, 1), (45, 0, 0, 0)]]
def ph_16 : List (List (Nat × Nat × Nat × Nat)) := [[(0, 0, 0, 1), (1, 1, 0, 1), (2, 1, 0, 1), (3, 0, 18, 3), (6, 1, 0, 1), (7, 0, 0, 1), (8, 0, 0, 2), (10, 0, 0, 2), (12, 1, 0, 1), (13, 0, 18, 3), (16, 1, 0, 1), (17, 0, 0, 1), (18, 0, 0, 1), (19, 0, 0, 1), (20, 0, 0, 3), (23, 1, 0, 1)], [(24, 0, 21, 3), (27, 0, 0, 2), (29, 0, 0, 1), (30, 0, 0, 2), (32, 1, 0, 1), (33, 0, 0, 1), (34, 0, 0, 1), (35, 0, 0, 2), (37, 0, 0, 2), (39, 0, 0, 3), (42, 1, 0, 1), (43, 0, 0, 1), (44, 0, 0, 1), (45, 0, 0, 2), (47, 1, 0, 1), (48, 1, 50, 3)], [(51, 0, 0, 3), (54, 0, 0, 1), (55, 0, 0, 3), (58, 0, 0, 1), (59, 0, 0, 1), (60, 1, 0, 1), (61, 0, 0, 3), (64, 0, 0, 2), (66, 0, 0, 1), (67, 0, 0, 3), (70, 1, 0, 1), (71, 0, 0, 1), (72, 0, 0, 1), (73, 1, 0, 1), (74, 0, 0, 3), (77, 0, 0, 2)], [(79, 1, 0, 2), (81, 0, 0, 3), (84, 1, 0, 1), (85, 0, 0, 1), (86, 0, 0, 1), (87, 0, 0, 2), (89, 0, 0, 1), (90, 0, 0, 1), (91, 0, 0, 2), (93, 0, 0, 1), (94, 0, 0, 1), (95, 1, 0, 1), (96, 0, 0, 3), (99, 1, 0, 1), (100, 0, 0, 1), (101, 0, 0, 1)], [(102, 0, 0, 2), (104, 0, 0, 1), (105, 1, 0, 1), (106, 0, 0, 3), (109, 0, 0, 3), (112, 1, 0, 1), (113, 0, 0, 1), (114, 0, 0, 1), (115, 0, 0, 3), (118, 0, 0, 1), (119, 0, 0, 3), (122, 0, 0, 1), (123, 0, 0, 1), (124, 0, 0, 0)]]
def ph_17 : List (List (Nat × Nat × Nat × Nat)) := [[(0, 1, 0, 1), (1, 2, 0, 3), (4, 0, 0, 1), (5, 2, 0, 3), (8, 0, 0, 1), (9, 1, 0, 1), (10, 1, 0, 1), (11, 2, 0, 3), (14, 0, 0, 1), (15, 1, 0, 1), (16, 1, 0, 1), (17, 2, 0, 3), (20, 0, 0, 3), (23, 1, 0, 1), (24, 1, 0, 1), (25, 2, 0, 3)], [(28, 0, 0, 1), (29, 0, 0, 1), (30, 1, 0, 1), (31, 1, 0, 1), (32, 2, 0, 3), (35, 0, 0, 3), (38, 1, 0, 1), (39, 1, 0, 1), (40, 2, 0, 3), (43, 0, 0, 1), (44, 0, 0, 1), (45, 1, 0, 1), (46, 1, 0, 1), (47, 2, 0, 3), (50, 0, 0, 1), (51, 2, 0, 3)], [(54, 0, 0, 1), (55, 0, 0, 2), (57, 0, 0, 2), (59, 0, 0, 3), (62, 1, 0, 1), (63, 1, 0, 1), (64, 0, 0, 3), (67, 0, 0, 1), (68, 0, 0, 3), (71, 0, 0, 1), (72, 0, 0, 3), (75, 0, 0, 2), (77, 0, 0, 1), (78, 0, 0, 3), (81, 1, 0, 1), (82, 1, 0, 1)], [(83, 0, 0, 3), (86, 0, 0, 1), (87, 0, 0, 3), (90, 0, 0, 1), (91, 0, 0, 3), (94, 1, 0, 1), (95, 1, 0, 1), (96, 0, 0, 3), (99, 0, 0, 1), (100, 0, 0, 3), (103, 0, 0, 1), (104, 0, 0, 1), (105, 0, 0, 0)]]
def ph_18 : List (List (Nat × Nat × Nat × Nat)) := [[(0, 1, 0, 1), (1, 0, 1, 3), (4, 1, 0, 1), (5, 0, 7, 3), (8, 0, 0, 1), (9, 5, 9, 3), (12, 0, 10, 3), (15, 1, 0, 1), (16, 1, 0, 1), (17, 0, 16, 3), (20, 0, 0, 1), (21, 0, 0, 0)]]
def ph_19 : List (List (Nat × Nat × Nat × Nat)) := [[(0, 1, 0, 1), (1, 1, 0, 1), (2, 0, 20, 3), (5, 1, 0, 1), (6, 0, 0, 1), (7, 0, 24, 3), (10, 1, 0, 1), (11, 0, 10, 3), (14, 0, 27, 3), (17, 1, 0, 1), (18, 0, 30, 3), (21, 0, 0, 1), (22, 0, 0, 0)]]
def ph_20 : List (List (Nat × Nat × Nat × Nat)) := [[(0, 1, 0, 1), (1, 0, 33, 3), (4, 0, 0, 1), (5, 0, 0, 3), (8, 0, 0, 1), (9, 0, 0, 3), (12, 0, 0, 1), (13, 0, 0, 1), (14, 0, 0, 0)]]
def ph_21 : List (List (Nat × Nat × Nat × Nat)) := [[(0, 1, 0, 1), (1, 0, 33, 3), (4, 1, 0, 2), (6, 0, 0, 3), (9, 1, 0, 1), (10, 0, 36, 2), (12, 0, 38, 3), (15, 0, 0, 3), (18, 0, 0, 1), (19, 1, 0, 1), (20, 1, 0, 1), (21, 0, 0, 3), (24, 1, 0, 1), (25, 0, 10, 3), (28, 0, 42, 3), (31, 1, 0, 2)], [(33, 0, 0, 3), (36, 0, 0, 1), (37, 0, 0, 1), (38, 1, 0, 1), (39, 0, 30, 3), (42, 1, 0, 1), (43, 0, 33, 3), (46, 1, 0, 2), (48, 0, 0, 3), (51, 1, 0, 1), (52, 1, 0, 1), (53, 1, 45, 3), (56, 0, 38, 3), (59, 0, 0, 3), (62, 0, 0, 1), (63, 1, 0, 1)], [(64, 1, 0, 1), (65, 0, 0, 3), (68, 0, 0, 1), (69, 0, 0, 1), (70, 1, 0, 1), (71, 0, 30, 3), (74, 1, 0, 1), (75, 0, 49, 2), (77, 0, 51, 3), (80, 0, 0, 3), (83, 1, 0, 1), (84, 0, 30, 3), (87, 1, 0, 1), (88, 0, 0, 1), (89, 0, 55, 3), (92, 0, 0, 3)], [(95, 0, 0, 1), (96, 0, 0, 1), (97, 1, 0, 1), (98, 0, 33, 3), (101, 1, 0, 2), (103, 0, 0, 3), (106, 0, 0, 1), (107, 0, 0, 1), (108, 1, 0, 1), (109, 0, 10, 3), (112, 1, 0, 1), (113, 1, 0, 1), (114, 0, 59, 3), (117, 1, 0, 1), (118, 0, 30, 3), (121, 0, 0, 1)], [(122, 0, 0, 1), (123, 0, 0, 0)]]
def ph_22 : List (List (Nat × Nat × Nat × Nat)) := [[(0, 1, 0, 1), (1, 1, 0, 1), (2, 0, 63, 3), (5, 0, 0, 3), (8, 0, 0, 1), (9, 0, 0, 1), (10, 0, 0, 1), (11, 1, 0, 1), (12, 1, 0, 1), (13, 1, 0, 1), (14, 0, 20, 3), (17, 0, 0, 3), (20, 1, 0, 1), (21, 0, 66, 2), (23, 0, 51, 3), (26, 0, 0, 3)], [(29, 1, 0, 1), (30, 0, 30, 3), (33, 1, 0, 1), (34, 1, 0, 1), (35, 0, 63, 3), (38, 0, 0, 3), (41, 0, 0, 1), (42, 0, 0, 1), (43, 1, 0, 1), (44, 0, 10, 3), (47, 1, 0, 2), (49, 0, 68, 3), (52, 0, 0, 3), (55, 0, 0, 3), (58, 0, 0, 1), (59, 0, 0, 1)], [(60, 0, 0, 0)]]
def ph_23 : List (List (Nat × Nat × Nat × Nat)) := [[(0, 1, 0, 1), (1, 1, 0, 1), (2, 0, 72, 3), (5, 0, 0, 3), (8, 0, 0, 1), (9, 0, 0, 1), (10, 0, 0, 1), (11, 1, 0, 1), (12, 1, 0, 1), (13, 1, 0, 1), (14, 0, 20, 3), (17, 0, 0, 3), (20, 1, 0, 1), (21, 0, 75, 2), (23, 0, 51, 3), (26, 0, 0, 3)], [(29, 1, 0, 1), (30, 0, 30, 3), (33, 1, 0, 1), (34, 1, 0, 1), (35, 0, 72, 3), (38, 0, 0, 3), (41, 0, 0, 1), (42, 0, 0, 1), (43, 1, 0, 1), (44, 0, 10, 3), (47, 1, 0, 2), (49, 0, 68, 3), (52, 0, 0, 3), (55, 0, 0, 3), (58, 0, 0, 1), (59, 0, 0, 1)], [(60, 0, 0, 0)]]
def ph_24 : List (List (Nat × Nat × Nat × Nat)) := [[(0, 0, 0, 1), (1, 1, 0, 1), (2, 0, 0, 1), (3, 1, 0, 1), (4, 1, 0, 1), (5, 1, 0, 1), (6, 0, 20, 3), (9, 0, 0, 3), (12, 1, 0, 1), (13, 0, 77, 2), (15, 0, 51, 3), (18, 0, 0, 3), (21, 1, 0, 1), (22, 0, 0, 3), (25, 0, 0, 1), (26, 0, 0, 3)], [(29, 0, 0, 1), (30, 1, 0, 1), (31, 1, 0, 1), (32, 0, 30, 3), (35, 0, 0, 3), (38, 0, 0, 3), (41, 1, 0, 1), (42, 0, 33, 3), (45, 1, 0, 2), (47, 0, 0, 3), (50, 1, 0, 1), (51, 0, 0, 1), (52, 0, 0, 3), (55, 0, 0, 1), (56, 0, 0, 1), (57, 1, 0, 1)], [(58, 0, 30, 3), (61, 1, 0, 1), (62, 1, 0, 1), (63, 0, 0, 1), (64, 0, 0, 1), (65, 0, 55, 3), (68, 0, 0, 3), (71, 1, 0, 1), (72, 0, 33, 3), (75, 1, 0, 2), (77, 0, 0, 3), (80, 0, 0, 1), (81, 0, 0, 1), (82, 1, 0, 1), (83, 0, 30, 3), (86, 0, 0, 3)], [(89, 1, 0, 1), (90, 0, 79, 3), (93, 0, 0, 3), (96, 0, 0, 1), (97, 0, 0, 1), (98, 1, 0, 1), (99, 0, 0, 3), (102, 1, 0, 1), (103, 0, 10, 3), (106, 0, 0, 1), (107, 0, 68, 3), (110, 0, 0, 1), (111, 0, 0, 1), (112, 0, 0, 0)]]
def ph_25 : List (List (Nat × Nat × Nat × Nat)) := [[(0, 1, 0, 1), (1, 0, 83, 3), (4, 1, 0, 1), (5, 1, 0, 1), (6, 0, 0, 3), (9, 0, 0, 1), (10, 0, 0, 1), (11, 1, 0, 1), (12, 0, 30, 3), (15, 1, 0, 1), (16, 0, 33, 3), (19, 1, 0, 2), (21, 0, 0, 1), (22, 1, 0, 1), (23, 1, 0, 1), (24, 0, 0, 3)], [(27, 1, 0, 1), (28, 0, 0, 1), (29, 0, 0, 3), (32, 0, 0, 1), (33, 0, 0, 1), (34, 1, 0, 1), (35, 0, 30, 3), (38, 1, 0, 1), (39, 0, 83, 3), (42, 1, 0, 1), (43, 1, 0, 1), (44, 0, 0, 3), (47, 0, 0, 1), (48, 0, 0, 1), (49, 1, 0, 1), (50, 0, 30, 3)], [(53, 1, 0, 1), (54, 0, 10, 3), (57, 1, 0, 1), (58, 2, 0, 3), (61, 0, 0, 1), (62, 1, 0, 1), (63, 0, 0, 1), (64, 2, 0, 3), (67, 0, 0, 1), (68, 1, 0, 1), (69, 0, 0, 1), (70, 0, 68, 3), (73, 0, 0, 1), (74, 0, 0, 1), (75, 0, 0, 0)]]
def ph_26 : List (List (Nat × Nat × Nat × Nat)) := [[(0, 1, 0, 1), (1, 0, 33, 3), (4, 1, 0, 2), (6, 0, 0, 3), (9, 1, 0, 1), (10, 0, 87, 3), (13, 0, 0, 1), (14, 1, 0, 1), (15, 0, 33, 3), (18, 1, 0, 2), (20, 0, 0, 3), (23, 1, 0, 1), (24, 0, 90, 2), (26, 0, 38, 3), (29, 0, 0, 3), (32, 0, 0, 1)], [(33, 1, 0, 1), (34, 1, 0, 1), (35, 0, 0, 3), (38, 0, 0, 1), (39, 0, 0, 3), (42, 2, 0, 3), (45, 1, 0, 1), (46, 0, 0, 1), (47, 0, 0, 1), (48, 0, 0, 0)]]
def ph_27 : List (List (Nat × Nat × Nat × Nat)) := [[(0, 1, 0, 1), (1, 1, 0, 1), (2, 0, 24, 3), (5, 0, 92, 3), (8, 1, 0, 1), (9, 0, 92, 3), (12, 1, 0, 1), (13, 0, 20, 3), (16, 0, 0, 3), (19, 1, 0, 1), (20, 0, 16, 3), (23, 1, 0, 1), (24, 0, 92, 3), (27, 0, 0, 1), (28, 1, 0, 2), (30, 0, 0, 3)], [(33, 1, 0, 1), (34, 0, 0, 1), (35, 0, 92, 3), (38, 0, 0, 1), (39, 0, 0, 1), (40, 0, 92, 3), (43, 0, 0, 3), (46, 1, 0, 1), (47, 1, 0, 1), (48, 0, 92, 3), (51, 0, 24, 3), (54, 1, 0, 1), (55, 0, 0, 1), (56, 0, 33, 3), (59, 1, 0, 1), (60, 0, 92, 3)], [(63, 1, 0, 1), (64, 0, 20, 3), (67, 0, 0, 3), (70, 0, 0, 1), (71, 1, 0, 1), (72, 0, 16, 3), (75, 1, 0, 1), (76, 0, 92, 3), (79, 0, 0, 1), (80, 1, 95, 3), (83, 0, 0, 3), (86, 1, 0, 1), (87, 1, 0, 2), (89, 0, 33, 3), (92, 1, 0, 1), (93, 0, 24, 3)], [(96, 1, 0, 1), (97, 0, 20, 3), (100, 0, 0, 3), (103, 1, 0, 1), (104, 0, 16, 3), (107, 1, 0, 1), (108, 0, 24, 3), (111, 0, 0, 1), (112, 1, 95, 3), (115, 0, 0, 3), (118, 1, 0, 1), (119, 0, 0, 1), (120, 0, 24, 3), (123, 0, 0, 1), (124, 0, 0, 1), (125, 0, 24, 3)], [(128, 0, 0, 3), (131, 1, 0, 1), (132, 0, 16, 3), (135, 1, 0, 1), (136, 0, 92, 3), (139, 0, 0, 1), (140, 1, 98, 3), (143, 0, 0, 3), (146, 1, 0, 1), (147, 0, 101, 3), (150, 0, 0, 3), (153, 1, 0, 1), (154, 1, 0, 1), (155, 0, 16, 3), (158, 1, 0, 1), (159, 0, 92, 3)], [(162, 0, 0, 1), (163, 2, 0, 3), (166, 0, 0, 1), (167, 0, 33, 3), (170, 1, 0, 1), (171, 0, 0, 1), (172, 0, 24, 3), (175, 0, 0, 1), (176, 0, 0, 1), (177, 0, 24, 3), (180, 0, 0, 1), (181, 0, 0, 0)]]
def ph_28 : List (List (Nat × Nat × Nat × Nat)) := [[(0, 1, 0, 1), (1, 0, 0, 1), (2, 0, 87, 3), (5, 1, 0, 1), (6, 0, 24, 3), (9, 1, 0, 1), (10, 0, 20, 3), (13, 0, 0, 3), (16, 1, 0, 1), (17, 0, 16, 3), (20, 1, 0, 1), (21, 0, 24, 3), (24, 0, 0, 1), (25, 1, 98, 3), (28, 0, 0, 3), (31, 1, 0, 1)], [(32, 0, 24, 3), (35, 1, 0, 1), (36, 0, 92, 3), (39, 0, 0, 1), (40, 0, 0, 1), (41, 0, 0, 3), (44, 1, 0, 1), (45, 1, 0, 1), (46, 0, 87, 3), (49, 1, 0, 2), (51, 0, 0, 1), (52, 1, 0, 1), (53, 0, 16, 3), (56, 1, 0, 1), (57, 0, 24, 3), (60, 0, 0, 1)], [(61, 0, 0, 1), (62, 1, 0, 2), (64, 0, 0, 1), (65, 0, 87, 3), (68, 1, 0, 1), (69, 0, 0, 1), (70, 0, 24, 3), (73, 0, 0, 1), (74, 0, 0, 1), (75, 0, 24, 3), (78, 0, 0, 3), (81, 1, 0, 1), (82, 1, 0, 1), (83, 0, 24, 3), (86, 1, 0, 1), (87, 0, 92, 3)], [(90, 0, 0, 1), (91, 0, 0, 1), (92, 0, 0, 3), (95, 1, 0, 2), (97, 0, 0, 3), (100, 1, 0, 2), (102, 0, 33, 3), (105, 0, 0, 1), (106, 0, 0, 0)]]
def ph_29 : List (List (Nat × Nat × Nat × Nat)) := [[(0, 1, 0, 1), (1, 0, 33, 3), (4, 1, 0, 2), (6, 0, 0, 3), (9, 1, 0, 1), (10, 1, 0, 1), (11, 0, 38, 3), (14, 0, 0, 3), (17, 0, 0, 1), (18, 0, 0, 3), (21, 0, 0, 1), (22, 0, 0, 1), (23, 0, 0, 0)]]
def ph_30 : List (List (Nat × Nat × Nat × Nat)) := [[(0, 0, 0, 1), (1, 1, 0, 1), (2, 0, 0, 1), (3, 1, 0, 1), (4, 0, 0, 1), (5, 0, 0, 2), (7, 0, 0, 2), (9, 1, 0, 1), (10, 0, 104, 3), (13, 0, 0, 3), (16, 1, 0, 1), (17, 0, 0, 2), (19, 0, 109, 3), (22, 0, 0, 2), (24, 0, 0, 2), (26, 1, 0, 2)], [(28, 0, 0, 3), (31, 1, 0, 1), (32, 1, 0, 1), (33, 0, 24, 3), (36, 1, 0, 1), (37, 0, 92, 3), (40, 0, 0, 1), (41, 0, 0, 3), (44, 1, 0, 1), (45, 0, 0, 1), (46, 0, 0, 3), (49, 0, 0, 1), (50, 1, 0, 1), (51, 0, 0, 3), (54, 1, 0, 1), (55, 0, 0, 3)], [(58, 1, 0, 1), (59, 0, 92, 3), (62, 1, 0, 1), (63, 0, 0, 1), (64, 1, 0, 1), (65, 0, 24, 3), (68, 0, 0, 3), (71, 1, 0, 1), (72, 0, 16, 3), (75, 1, 0, 1), (76, 0, 92, 3), (79, 1, 0, 1), (80, 0, 0, 1), (81, 0, 0, 1), (82, 0, 0, 2), (84, 0, 0, 3)], [(87, 1, 0, 1), (88, 0, 0, 1), (89, 0, 0, 1), (90, 0, 0, 3), (93, 0, 0, 1), (94, 1, 0, 1), (95, 0, 0, 3), (98, 0, 0, 3), (101, 1, 0, 1), (102, 1, 0, 1), (103, 0, 24, 3), (106, 1, 0, 1), (107, 0, 92, 3), (110, 0, 0, 1), (111, 0, 0, 3), (114, 1, 0, 1)], [(115, 0, 0, 3), (118, 0, 0, 1), (119, 0, 0, 1), (120, 0, 0, 0)]]
def ph_31 : List (List (Nat × Nat × Nat × Nat)) := [[(0, 1, 0, 1), (1, 1, 0, 2), (3, 0, 0, 3), (6, 1, 0, 1), (7, 1, 0, 2), (9, 0, 0, 3), (12, 0, 0, 1), (13, 0, 0, 3), (16, 0, 0, 1), (17, 0, 0, 1), (18, 0, 0, 0)]]
def ph_32 : List (List (Nat × Nat × Nat × Nat)) := [[(0, 1, 0, 1), (1, 1, 0, 2), (3, 0, 0, 3), (6, 1, 0, 1), (7, 1, 0, 2), (9, 0, 0, 3), (12, 0, 0, 1), (13, 0, 0, 3), (16, 0, 0, 1), (17, 0, 0, 1), (18, 0, 0, 0)]]
def ph_33 : List (List (Nat × Nat × Nat × Nat)) := [[(0, 1, 0, 1), (1, 0, 5, 3), (4, 1, 0, 1), (5, 1, 0, 2), (7, 0, 0, 2), (9, 0, 11, 3), (12, 1, 0, 1), (13, 1, 0, 1), (14, 0, 15, 3), (17, 0, 0, 1), (18, 0, 0, 0)]]
def ph_34 : List (List (Nat × Nat × Nat × Nat)) := [[(0, 1, 0, 1), (1, 1, 0, 1), (2, 1, 19, 3), (5, 0, 0, 2), (7, 0, 0, 1), (8, 0, 0, 2), (10, 0, 0, 2), (12, 1, 0, 2), (14, 0, 0, 3), (17, 1, 0, 1), (18, 1, 21, 3), (21, 0, 0, 1), (22, 0, 0, 1), (23, 0, 0, 1), (24, 0, 0, 3), (27, 1, 0, 1)], [(28, 1, 21, 3), (31, 0, 0, 1), (32, 1, 0, 1), (33, 0, 0, 2), (35, 1, 21, 3), (38, 0, 0, 1), (39, 0, 0, 2), (41, 0, 0, 3), (44, 0, 0, 3), (47, 1, 0, 1), (48, 0, 0, 3), (51, 1, 0, 1), (52, 0, 0, 3), (55, 0, 0, 2), (57, 0, 0, 1), (58, 0, 0, 0)]]
def ph_35 : List (List (Nat × Nat × Nat × Nat)) := [[(0, 0, 0, 1), (1, 1, 0, 1), (2, 0, 0, 1), (3, 0, 0, 2), (5, 0, 0, 2), (7, 1, 0, 1), (8, 0, 15, 3), (11, 0, 23, 3), (14, 0, 0, 3), (17, 1, 0, 1), (18, 0, 15, 3), (21, 0, 29, 3), (24, 0, 0, 2), (26, 0, 0, 1), (27, 0, 33, 3), (30, 1, 0, 1)], [(31, 0, 0, 3), (34, 0, 0, 3), (37, 1, 0, 1), (38, 0, 0, 2), (40, 0, 38, 3), (43, 1, 0, 1), (44, 1, 0, 1), (45, 0, 15, 3), (48, 0, 29, 3), (51, 0, 0, 2), (53, 0, 0, 1), (54, 0, 42, 3), (57, 0, 0, 1), (58, 1, 0, 1), (59, 0, 11, 3), (62, 1, 0, 1)], [(63, 0, 0, 1), (64, 0, 0, 1), (65, 0, 0, 1), (66, 1, 0, 1), (67, 0, 0, 3), (70, 0, 0, 3), (73, 1, 0, 1), (74, 0, 0, 1), (75, 0, 0, 0)]]
def ph_36 : List (List (Nat × Nat × Nat × Nat)) := [[(0, 1, 0, 1), (1, 1, 0, 1), (2, 1, 0, 1), (3, 1, 0, 1), (4, 0, 15, 3), (7, 0, 45, 3), (10, 0, 0, 3), (13, 1, 0, 1), (14, 0, 11, 3), (17, 1, 0, 1), (18, 0, 0, 1), (19, 0, 0, 1), (20, 0, 0, 1), (21, 0, 0, 3), (24, 1, 0, 1), (25, 0, 0, 1)], [(26, 0, 0, 3), (29, 0, 0, 3), (32, 1, 0, 2), (34, 0, 0, 1), (35, 0, 0, 0)]]
def ph_37 : List (List (Nat × Nat × Nat × Nat)) := [[(0, 1, 0, 1), (1, 0, 15, 3), (4, 0, 29, 3), (7, 1, 0, 1), (8, 0, 0, 1), (9, 1, 0, 1), (10, 0, 0, 1), (11, 1, 0, 1), (12, 1, 0, 1), (13, 1, 0, 1), (14, 0, 11, 3), (17, 0, 0, 1), (18, 0, 0, 3), (21, 1, 0, 1), (22, 0, 11, 3), (25, 1, 0, 1)], [(26, 0, 0, 1), (27, 0, 0, 1), (28, 0, 0, 3), (31, 0, 0, 3), (34, 1, 0, 1), (35, 0, 11, 3), (38, 1, 0, 1), (39, 0, 48, 3), (42, 1, 19, 3), (45, 0, 0, 1), (46, 1, 0, 1), (47, 0, 51, 3), (50, 1, 0, 1), (51, 1, 0, 1), (52, 1, 0, 1), (53, 0, 15, 3)], [(56, 0, 54, 3), (59, 0, 0, 3), (62, 1, 0, 1), (63, 0, 15, 3), (66, 0, 57, 3), (69, 1, 0, 1), (70, 0, 0, 1), (71, 0, 0, 2), (73, 1, 0, 1), (74, 0, 15, 3), (77, 0, 61, 3), (80, 0, 0, 2), (82, 0, 65, 3), (85, 0, 0, 1), (86, 0, 0, 2), (88, 0, 0, 2)], [(90, 0, 70, 3), (93, 0, 0, 1), (94, 0, 0, 3), (97, 1, 0, 1), (98, 0, 0, 2), (100, 0, 71, 3), (103, 0, 0, 2), (105, 0, 65, 3), (108, 0, 76, 3), (111, 1, 0, 1), (112, 0, 0, 2), (114, 0, 80, 3), (117, 0, 0, 2), (119, 0, 65, 3), (122, 0, 76, 3), (125, 0, 0, 3)], [(128, 0, 0, 2), (130, 0, 70, 3), (133, 0, 0, 1), (134, 0, 0, 3), (137, 0, 0, 2), (139, 0, 83, 3), (142, 4, 86, 3), (145, 0, 0, 3), (148, 1, 0, 1), (149, 0, 15, 3), (152, 0, 61, 3), (155, 0, 0, 2), (157, 0, 71, 3), (160, 0, 0, 1), (161, 0, 90, 3), (164, 1, 0, 1)], [(165, 0, 0, 3), (168, 1, 0, 1), (169, 0, 0, 2), (171, 0, 65, 3), (174, 0, 0, 2), (176, 0, 71, 3), (179, 0, 76, 3), (182, 1, 0, 1), (183, 0, 11, 3), (186, 0, 0, 2), (188, 0, 65, 3), (191, 0, 0, 1), (192, 0, 0, 1), (193, 0, 0, 3), (196, 1, 0, 1), (197, 0, 15, 3)], [(200, 0, 0, 2), (202, 1, 0, 1), (203, 0, 93, 3), (206, 0, 96, 3), (209, 0, 0, 3), (212, 1, 0, 1), (213, 1, 0, 1), (214, 0, 0, 2), (216, 0, 100, 3), (219, 0, 0, 3), (222, 0, 0, 3), (225, 0, 0, 1), (226, 0, 0, 0)]]
def ph_38 : List (List (Nat × Nat × Nat × Nat)) := [[(0, 1, 0, 1), (1, 0, 11, 3), (4, 1, 0, 1), (5, 1, 19, 3), (8, 1, 0, 1), (9, 0, 11, 3), (12, 1, 0, 1), (13, 0, 0, 1), (14, 1, 0, 1), (15, 0, 11, 3), (18, 1, 0, 1), (19, 0, 0, 1), (20, 0, 0, 1), (21, 0, 104, 3), (24, 0, 0, 1), (25, 1, 0, 1)], [(26, 0, 11, 3), (29, 1, 0, 1), (30, 0, 0, 1), (31, 0, 0, 1), (32, 0, 0, 1), (33, 0, 0, 0)]]
def ph_39 : List (List (Nat × Nat × Nat × Nat)) := [[(0, 1, 0, 1), (1, 0, 15, 3), (4, 0, 29, 3), (7, 1, 0, 1), (8, 0, 0, 1), (9, 1, 0, 1), (10, 1, 0, 1), (11, 0, 15, 3), (14, 0, 61, 3), (17, 1, 0, 1), (18, 0, 65, 3), (21, 0, 0, 1), (22, 0, 0, 2), (24, 1, 0, 1), (25, 0, 33, 3), (28, 0, 0, 3)], [(31, 0, 0, 1), (32, 0, 0, 3), (35, 0, 0, 1), (36, 0, 0, 2), (38, 1, 0, 1), (39, 0, 15, 3), (42, 0, 0, 2), (44, 1, 0, 1), (45, 0, 65, 3), (48, 1, 0, 1), (49, 0, 110, 3), (52, 1, 0, 1), (53, 0, 42, 3), (56, 1, 0, 1), (57, 0, 111, 3), (60, 0, 0, 28)], [(88, 1, 0, 1), (89, 0, 0, 2), (91, 0, 71, 3), (94, 1, 0, 1), (95, 0, 65, 3), (98, 0, 76, 3), (101, 0, 0, 3), (104, 1, 0, 1), (105, 0, 11, 3), (108, 1, 0, 1), (109, 0, 65, 3), (112, 1, 0, 1), (113, 0, 11, 3), (116, 0, 0, 2), (118, 0, 71, 3), (121, 0, 0, 1)], [(122, 0, 0, 2), (124, 0, 115, 3), (127, 0, 0, 1), (128, 0, 0, 1), (129, 1, 117, 3), (132, 0, 0, 1), (133, 0, 0, 1), (134, 1, 0, 1), (135, 0, 11, 3), (138, 0, 0, 2), (140, 0, 71, 3), (143, 0, 0, 1), (144, 0, 0, 1), (145, 1, 0, 1), (146, 0, 11, 3), (149, 1, 0, 1)], [(150, 0, 65, 3), (153, 0, 0, 1), (154, 0, 0, 1), (155, 0, 0, 1), (156, 0, 0, 3), (159, 1, 0, 1), (160, 0, 11, 3), (163, 1, 0, 1), (164, 0, 65, 3), (167, 1, 0, 1), (168, 0, 11, 3), (171, 0, 0, 2), (173, 0, 71, 3), (176, 0, 0, 1), (177, 0, 0, 1), (178, 0, 0, 3)], [(181, 0, 0, 1), (182, 0, 0, 0)]]
def ph_40 : List (List (Nat × Nat × Nat × Nat)) := [[(0, 1, 0, 1), (1, 0, 3, 3), (4, 1, 0, 1), (5, 1, 0, 2), (7, 0, 0, 2), (9, 0, 9, 3), (12, 1, 0, 1), (13, 1, 0, 2), (15, 0, 0, 2), (17, 0, 15, 3), (20, 1, 0, 1), (21, 1, 0, 1), (22, 0, 18, 3), (25, 0, 0, 1), (26, 0, 0, 0)]]
def ph_41 : List (List (Nat × Nat × Nat × Nat)) := [[(0, 0, 0, 1), (1, 1, 0, 1), (2, 1, 0, 1), (3, 1, 0, 1), (4, 0, 18, 3), (7, 0, 22, 3), (10, 0, 0, 3), (13, 1, 0, 1), (14, 0, 18, 3), (17, 0, 28, 3), (20, 1, 0, 1), (21, 0, 0, 1), (22, 1, 0, 1), (23, 0, 0, 1), (24, 1, 0, 1), (25, 1, 0, 1)], [(26, 0, 32, 3), (29, 0, 0, 1), (30, 0, 0, 3), (33, 1, 0, 1), (34, 0, 9, 3), (37, 1, 0, 1), (38, 0, 37, 3), (41, 0, 0, 1), (42, 1, 0, 1), (43, 0, 9, 3), (46, 1, 0, 1), (47, 0, 40, 3), (50, 0, 0, 1), (51, 0, 0, 1), (52, 1, 0, 1), (53, 1, 0, 1)], [(54, 0, 32, 3), (57, 4, 43, 3), (60, 0, 0, 3), (63, 1, 0, 1), (64, 0, 9, 3), (67, 1, 0, 1), (68, 0, 37, 3), (71, 0, 0, 1), (72, 1, 0, 1), (73, 1, 0, 1), (74, 0, 47, 3), (77, 0, 50, 3), (80, 0, 0, 1), (81, 1, 0, 1), (82, 1, 0, 1), (83, 0, 32, 3)], [(86, 0, 0, 1), (87, 0, 0, 3), (90, 1, 0, 1), (91, 2, 0, 3), (94, 0, 0, 1), (95, 1, 0, 1), (96, 0, 0, 1), (97, 0, 0, 2), (99, 0, 0, 2), (101, 1, 0, 1), (102, 0, 18, 3), (105, 0, 54, 3), (108, 0, 0, 3), (111, 1, 0, 1), (112, 0, 18, 3), (115, 0, 57, 3)], [(118, 0, 0, 2), (120, 0, 0, 1), (121, 1, 0, 1), (122, 0, 0, 3), (125, 1, 0, 1), (126, 0, 0, 1), (127, 0, 0, 2), (129, 0, 0, 1), (130, 0, 0, 1), (131, 1, 0, 1), (132, 0, 0, 3), (135, 0, 0, 3), (138, 1, 0, 1), (139, 0, 9, 3), (142, 1, 0, 1), (143, 1, 0, 1)], [(144, 0, 0, 1), (145, 0, 0, 3), (148, 0, 0, 3), (151, 0, 0, 1), (152, 0, 0, 0)]]
def ph_42 : List (List (Nat × Nat × Nat × Nat)) := [[(0, 0, 0, 1), (1, 1, 0, 1), (2, 0, 0, 1), (3, 1, 0, 1), (4, 1, 0, 1), (5, 1, 0, 1), (6, 0, 18, 3), (9, 0, 54, 3), (12, 0, 0, 3), (15, 1, 0, 1), (16, 0, 18, 3), (19, 0, 60, 3), (22, 1, 0, 1), (23, 0, 0, 1), (24, 1, 0, 1), (25, 0, 0, 3)], [(28, 1, 0, 1), (29, 0, 0, 1), (30, 1, 0, 1), (31, 0, 0, 1), (32, 0, 0, 1), (33, 1, 0, 1), (34, 0, 0, 3), (37, 0, 0, 3), (40, 1, 0, 1), (41, 0, 0, 1), (42, 0, 0, 0)]]
def ph_43 : List (List (Nat × Nat × Nat × Nat)) := [[(0, 1, 0, 1), (1, 0, 63, 3), (4, 0, 0, 1), (5, 1, 0, 1), (6, 1, 0, 1), (7, 1, 0, 1), (8, 0, 18, 3), (11, 0, 54, 3), (14, 0, 0, 3), (17, 1, 0, 1), (18, 0, 9, 3), (21, 1, 0, 1), (22, 0, 0, 1), (23, 1, 0, 1), (24, 0, 9, 3), (27, 1, 0, 1)], [(28, 0, 0, 1), (29, 0, 0, 1), (30, 1, 0, 1), (31, 0, 0, 1), (32, 0, 0, 1), (33, 0, 0, 1), (34, 0, 0, 3), (37, 1, 0, 1), (38, 0, 0, 1), (39, 0, 0, 3), (42, 0, 0, 3), (45, 1, 0, 2), (47, 0, 0, 1), (48, 0, 0, 0)]]
def ph_44 : List (List (Nat × Nat × Nat × Nat)) := [[(0, 1, 0, 1), (1, 0, 63, 3), (4, 1, 0, 1), (5, 0, 66, 3), (8, 1, 0, 1), (9, 0, 0, 1), (10, 1, 0, 1), (11, 0, 18, 3), (14, 0, 54, 3), (17, 0, 0, 1), (18, 0, 0, 1), (19, 0, 0, 1), (20, 1, 0, 1), (21, 1, 0, 1), (22, 1, 0, 1), (23, 1, 0, 1)], [(24, 0, 18, 3), (27, 0, 54, 3), (30, 0, 0, 2), (32, 0, 0, 1), (33, 0, 0, 2), (35, 0, 0, 2), (37, 1, 0, 1), (38, 0, 0, 3), (41, 0, 0, 2), (43, 1, 70, 3), (46, 0, 0, 2), (48, 0, 0, 2), (50, 0, 0, 2), (52, 0, 0, 3), (55, 1, 0, 1), (56, 0, 0, 2)], [(58, 1, 0, 1), (59, 0, 75, 3), (62, 0, 0, 3), (65, 0, 0, 3), (68, 0, 0, 2), (70, 1, 0, 1), (71, 0, 0, 2), (73, 0, 0, 2), (75, 0, 0, 3), (78, 0, 0, 3), (81, 1, 0, 1), (82, 0, 0, 1), (83, 0, 0, 0)]]
def ph_45 : List (List (Nat × Nat × Nat × Nat)) := [[(0, 0, 0, 1), (1, 1, 0, 1), (2, 0, 0, 1), (3, 1, 0, 1), (4, 1, 0, 1), (5, 1, 0, 1), (6, 0, 18, 3), (9, 0, 22, 3), (12, 0, 0, 3), (15, 0, 0, 1), (16, 1, 0, 1), (17, 1, 0, 1), (18, 1, 0, 1), (19, 0, 0, 3), (22, 1, 0, 1), (23, 0, 18, 3)], [(26, 1, 0, 1), (27, 0, 79, 3), (30, 0, 0, 3), (33, 1, 0, 1), (34, 0, 18, 3), (37, 1, 0, 1), (38, 0, 79, 3), (41, 0, 0, 3), (44, 1, 0, 1), (45, 0, 9, 3), (48, 1, 0, 1), (49, 0, 0, 1), (50, 1, 0, 1), (51, 0, 9, 3), (54, 1, 0, 1), (55, 0, 0, 1)], [(56, 0, 0, 3), (59, 0, 0, 3), (62, 1, 0, 1), (63, 1, 0, 1), (64, 0, 15, 3), (67, 0, 0, 1), (68, 0, 0, 3), (71, 0, 0, 3), (74, 1, 0, 1), (75, 0, 15, 3), (78, 1, 0, 1), (79, 1, 0, 1), (80, 0, 9, 3), (83, 1, 0, 1), (84, 0, 0, 1), (85, 1, 0, 1)], [(86, 0, 9, 3), (89, 1, 0, 1), (90, 0, 0, 1), (91, 0, 0, 1), (92, 0, 0, 1), (93, 0, 0, 3), (96, 0, 0, 3), (99, 0, 0, 3), (102, 0, 0, 3), (105, 0, 0, 3), (108, 1, 0, 1), (109, 0, 0, 1), (110, 0, 0, 0)]]
def ph_46 : List (List (Nat × Nat × Nat × Nat)) := [[(0, 0, 0, 1), (1, 1, 0, 1), (2, 1, 0, 1), (3, 1, 0, 1), (4, 0, 0, 3), (7, 1, 0, 1), (8, 0, 15, 3), (11, 1, 0, 1), (12, 0, 0, 1), (13, 1, 0, 1), (14, 0, 0, 1), (15, 0, 0, 3), (18, 0, 0, 1), (19, 0, 0, 1), (20, 0, 0, 3), (23, 0, 0, 3)], [(26, 0, 0, 1), (27, 0, 0, 1), (28, 0, 0, 0)]]
def ph_47 : List (List (Nat × Nat × Nat × Nat)) := [[(0, 1, 0, 1), (1, 0, 18, 3), (4, 0, 57, 3), (7, 1, 0, 1), (8, 0, 0, 1), (9, 1, 0, 1), (10, 1, 0, 1), (11, 0, 18, 3), (14, 0, 0, 1), (15, 1, 0, 1), (16, 0, 82, 3), (19, 0, 0, 25), (44, 1, 0, 1), (45, 1, 0, 1), (46, 0, 86, 3), (49, 0, 0, 1)], [(50, 1, 0, 1), (51, 1, 0, 1), (52, 0, 18, 3), (55, 1, 0, 1), (56, 0, 89, 3), (59, 0, 92, 3), (62, 0, 0, 1), (63, 1, 0, 1), (64, 1, 0, 1), (65, 1, 0, 1), (66, 0, 95, 3), (69, 0, 92, 3), (72, 0, 0, 1), (73, 0, 0, 0)]]
def ph_48 : List (List (Nat × Nat × Nat × Nat)) := [[(0, 1, 0, 1), (1, 1, 0, 1), (2, 0, 0, 1), (3, 1, 0, 1), (4, 1, 0, 1), (5, 1, 0, 1), (6, 0, 18, 3), (9, 0, 22, 3), (12, 0, 0, 3), (15, 1, 0, 1), (16, 0, 18, 3), (19, 0, 28, 3), (22, 1, 0, 1), (23, 0, 0, 1), (24, 0, 98, 3), (27, 0, 0, 3)], [(30, 1, 0, 1), (31, 0, 18, 3), (34, 0, 28, 3), (37, 1, 0, 1), (38, 0, 0, 1), (39, 0, 98, 3), (42, 1, 0, 1), (43, 0, 0, 3), (46, 0, 0, 3), (49, 1, 0, 1), (50, 0, 0, 1), (51, 0, 0, 0)]]
def ph_49 : List (List (Nat × Nat × Nat × Nat)) := [[(0, 1, 0, 1), (1, 0, 18, 3), (4, 1, 0, 1), (5, 0, 79, 3), (8, 0, 0, 3), (11, 0, 0, 1), (12, 0, 0, 3), (15, 0, 0, 1), (16, 1, 0, 1), (17, 0, 0, 1), (18, 0, 0, 1), (19, 0, 0, 0)]]
def ph_50 : List (List (Nat × Nat × Nat × Nat)) := [[(0, 1, 0, 1), (1, 0, 63, 3), (4, 0, 0, 1), (5, 1, 0, 1), (6, 0, 0, 1), (7, 1, 0, 1), (8, 1, 0, 1), (9, 1, 0, 1), (10, 0, 18, 3), (13, 0, 22, 3), (16, 0, 0, 3), (19, 1, 0, 1), (20, 1, 0, 1), (21, 0, 101, 3), (24, 0, 0, 3), (27, 1, 0, 1)], [(28, 0, 9, 3), (31, 1, 0, 1), (32, 0, 0, 1), (33, 1, 0, 1), (34, 0, 0, 1), (35, 0, 0, 1), (36, 0, 0, 1), (37, 0, 0, 3), (40, 1, 0, 1), (41, 0, 0, 1), (42, 1, 0, 1), (43, 0, 0, 1), (44, 0, 0, 1), (45, 1, 0, 1), (46, 0, 0, 3), (49, 0, 0, 3)], [(52, 1, 0, 1), (53, 0, 0, 1), (54, 0, 0, 0)]]
def ph_51 : List (List (Nat × Nat × Nat × Nat)) := [[(0, 1, 0, 1), (1, 0, 18, 3), (4, 1, 0, 1), (5, 0, 104, 3), (8, 0, 0, 3), (11, 1, 0, 1), (12, 0, 18, 3), (15, 0, 28, 3), (18, 1, 0, 1), (19, 0, 0, 1), (20, 0, 107, 3), (23, 0, 0, 3), (26, 0, 0, 1), (27, 0, 0, 3), (30, 0, 0, 1), (31, 0, 0, 1)], [(32, 0, 0, 0)]]
def ph_52 : List (List (Nat × Nat × Nat × Nat)) := [[(0, 1, 0, 1), (1, 1, 0, 1), (2, 0, 101, 3), (5, 0, 0, 3), (8, 0, 0, 1), (9, 0, 0, 1), (10, 1, 0, 1), (11, 0, 18, 3), (14, 1, 0, 1), (15, 0, 89, 3), (18, 1, 0, 1), (19, 0, 0, 1), (20, 1, 0, 1), (21, 0, 0, 1), (22, 0, 0, 2), (24, 0, 0, 1)], [(25, 0, 0, 2), (27, 0, 0, 2), (29, 1, 0, 1), (30, 0, 18, 3), (33, 0, 22, 3), (36, 0, 0, 3), (39, 1, 0, 1), (40, 0, 0, 2), (42, 0, 101, 3), (45, 0, 0, 3), (48, 1, 0, 1), (49, 0, 18, 3), (52, 0, 0, 2), (54, 0, 89, 3), (57, 1, 0, 1), (58, 0, 0, 3)], [(61, 0, 0, 3), (64, 0, 0, 3), (67, 0, 0, 2), (69, 1, 0, 1), (70, 0, 0, 3), (73, 0, 0, 1), (74, 0, 0, 2), (76, 0, 0, 3), (79, 0, 0, 3), (82, 1, 0, 1), (83, 0, 18, 3), (86, 0, 0, 1), (87, 1, 0, 1), (88, 0, 82, 3), (91, 0, 0, 25), (116, 0, 0, 2)], [(118, 0, 0, 3), (121, 0, 0, 1), (122, 0, 0, 3), (125, 0, 0, 1), (126, 0, 0, 1), (127, 1, 0, 1), (128, 0, 0, 1), (129, 0, 0, 1), (130, 0, 0, 1), (131, 0, 0, 0)]]
def ph_53 : List (List (Nat × Nat × Nat × Nat)) := [[(0, 0, 0, 1), (1, 1, 0, 1), (2, 0, 0, 1), (3, 1, 0, 1), (4, 0, 0, 1), (5, 0, 0, 2), (7, 0, 0, 1), (8, 0, 0, 2), (10, 0, 0, 2), (12, 1, 0, 1), (13, 0, 18, 3), (16, 0, 22, 3), (19, 0, 0, 3), (22, 1, 0, 1), (23, 0, 18, 3), (26, 0, 0, 2)], [(28, 0, 89, 3), (31, 1, 0, 1), (32, 0, 0, 3), (35, 1, 0, 1), (36, 0, 0, 2), (38, 0, 111, 3), (41, 0, 0, 3), (44, 0, 0, 1), (45, 0, 0, 2), (47, 0, 0, 2), (49, 0, 0, 1), (50, 0, 0, 3), (53, 0, 0, 3), (56, 0, 0, 2), (58, 0, 0, 1), (59, 0, 0, 3)], [(62, 0, 0, 3), (65, 0, 0, 2), (67, 0, 0, 2), (69, 0, 0, 3), (72, 0, 0, 3), (75, 1, 0, 1), (76, 1, 0, 1), (77, 0, 0, 2), (79, 0, 0, 1), (80, 0, 0, 1), (81, 0, 0, 1), (82, 0, 0, 0)]]
def ph_54 : List (List (Nat × Nat × Nat × Nat)) := [[(0, 1, 0, 1), (1, 0, 3, 3), (4, 0, 0, 1), (5, 0, 0, 0)]]
def ph_55 : List (List (Nat × Nat × Nat × Nat)) := [[(0, 1, 0, 1), (1, 1, 0, 1), (2, 0, 9, 3), (5, 1, 0, 1), (6, 1, 0, 1), (7, 0, 15, 3), (10, 1, 0, 1), (11, 1, 0, 2), (13, 0, 18, 3), (16, 1, 0, 1), (17, 1, 0, 2), (19, 0, 21, 3), (22, 1, 0, 1), (23, 1, 0, 1), (24, 0, 24, 3), (27, 1, 0, 1)], [(28, 1, 0, 2), (30, 0, 27, 3), (33, 1, 0, 1), (34, 1, 0, 2), (36, 0, 30, 3), (39, 1, 0, 1), (40, 1, 0, 2), (42, 0, 33, 3), (45, 1, 0, 1), (46, 3, 38, 2), (48, 0, 39, 3), (51, 1, 0, 1), (52, 0, 0, 1), (53, 0, 42, 3), (56, 1, 0, 1), (57, 0, 0, 1)], [(58, 0, 46, 3), (61, 1, 0, 1), (62, 0, 0, 1), (63, 0, 49, 3), (66, 0, 0, 1), (67, 0, 0, 0)]]
def ph_56 : List (List (Nat × Nat × Nat × Nat)) := [[(0, 1, 0, 1), (1, 1, 0, 1), (2, 0, 9, 3), (5, 0, 9, 3), (8, 1, 0, 1), (9, 1, 0, 1), (10, 0, 15, 3), (13, 0, 15, 3), (16, 1, 0, 1), (17, 1, 0, 1), (18, 0, 18, 3), (21, 0, 18, 3), (24, 1, 0, 1), (25, 1, 0, 1), (26, 0, 21, 3), (29, 0, 21, 3)], [(32, 1, 0, 1), (33, 1, 0, 1), (34, 0, 24, 3), (37, 0, 24, 3), (40, 1, 0, 1), (41, 1, 0, 1), (42, 0, 27, 3), (45, 0, 27, 3), (48, 1, 0, 1), (49, 1, 0, 1), (50, 0, 30, 3), (53, 0, 30, 3), (56, 1, 0, 1), (57, 1, 0, 1), (58, 0, 33, 3), (61, 0, 33, 3)], [(64, 1, 0, 1), (65, 1, 0, 1), (66, 0, 39, 3), (69, 0, 39, 3), (72, 1, 0, 1), (73, 1, 0, 1), (74, 0, 42, 3), (77, 0, 42, 3), (80, 1, 0, 1), (81, 1, 0, 1), (82, 0, 46, 3), (85, 0, 46, 3), (88, 1, 0, 1), (89, 1, 0, 1), (90, 0, 49, 3), (93, 0, 49, 3)], [(96, 0, 0, 1), (97, 0, 0, 0)]]
def ph_57 : List (List (Nat × Nat × Nat × Nat)) := [[(0, 1, 0, 1), (1, 0, 3, 3), (4, 1, 0, 1), (5, 1, 0, 1), (6, 0, 9, 3), (9, 0, 0, 1), (10, 0, 0, 0)]]
def ph_58 : List (List (Nat × Nat × Nat × Nat)) := [[(0, 0, 0, 1), (1, 1, 0, 1), (2, 0, 0, 1), (3, 1, 0, 1), (4, 1, 0, 1), (5, 1, 0, 1), (6, 0, 9, 3), (9, 0, 15, 3), (12, 0, 0, 3), (15, 1, 0, 1), (16, 0, 9, 3), (19, 0, 21, 3), (22, 1, 0, 1), (23, 0, 0, 1), (24, 0, 0, 2), (26, 1, 0, 1)], [(27, 0, 0, 2), (29, 0, 0, 2), (31, 0, 25, 3), (34, 0, 30, 3), (37, 0, 0, 2), (39, 1, 0, 1), (40, 0, 0, 2), (42, 0, 0, 2), (44, 0, 34, 3), (47, 0, 30, 3), (50, 0, 0, 2), (52, 0, 0, 2), (54, 1, 0, 1), (55, 0, 0, 1), (56, 0, 0, 1), (57, 0, 0, 1)], [(58, 0, 0, 3), (61, 1, 0, 1), (62, 0, 0, 2), (64, 0, 0, 1), (65, 1, 0, 1), (66, 0, 0, 2), (68, 1, 0, 1), (69, 0, 0, 1), (70, 0, 0, 1), (71, 0, 0, 1), (72, 0, 0, 3), (75, 1, 0, 1), (76, 0, 0, 2), (78, 0, 0, 1), (79, 1, 0, 1), (80, 0, 0, 3)], [(83, 0, 0, 3), (86, 1, 0, 1), (87, 0, 0, 1), (88, 1, 0, 1), (89, 0, 0, 1), (90, 0, 0, 1), (91, 0, 0, 1), (92, 0, 0, 1), (93, 0, 0, 1), (94, 0, 0, 0)]]
def ph_59 : List (List (Nat × Nat × Nat × Nat)) := [[(0, 0, 0, 1), (1, 1, 0, 1), (2, 0, 0, 1), (3, 1, 0, 1), (4, 1, 0, 1), (5, 0, 37, 3), (8, 0, 0, 2), (10, 0, 0, 2), (12, 1, 0, 1), (13, 0, 9, 3), (16, 0, 40, 3), (19, 0, 0, 3), (22, 1, 0, 1), (23, 0, 9, 3), (26, 0, 43, 3), (29, 0, 0, 2)], [(31, 0, 0, 1), (32, 0, 0, 2), (34, 1, 0, 1), (35, 0, 9, 3), (38, 0, 47, 3), (41, 0, 0, 2), (43, 0, 51, 3), (46, 0, 0, 1), (47, 0, 0, 2), (49, 0, 0, 2), (51, 0, 56, 3), (54, 0, 0, 1), (55, 0, 0, 3), (58, 0, 0, 1), (59, 0, 0, 2), (61, 0, 59, 3)], [(64, 0, 0, 1), (65, 0, 0, 1), (66, 0, 0, 2), (68, 0, 64, 3), (71, 0, 0, 1), (72, 0, 0, 1), (73, 0, 0, 2), (75, 1, 0, 1), (76, 0, 0, 2), (78, 0, 0, 1), (79, 0, 0, 3), (82, 1, 0, 1), (83, 0, 0, 2), (85, 0, 0, 1), (86, 0, 0, 1), (87, 0, 0, 1)], [(88, 0, 0, 1), (89, 0, 0, 2), (91, 0, 51, 3), (94, 0, 0, 1), (95, 0, 0, 1), (96, 1, 0, 1), (97, 0, 0, 3), (100, 0, 0, 2), (102, 0, 56, 3), (105, 0, 0, 1), (106, 0, 0, 3), (109, 1, 0, 1), (110, 0, 0, 1), (111, 0, 0, 2), (113, 0, 51, 3), (116, 0, 0, 1)], [(117, 0, 0, 1), (118, 0, 0, 1), (119, 0, 0, 1), (120, 1, 0, 1), (121, 0, 0, 3), (124, 1, 0, 1), (125, 0, 9, 3), (128, 0, 0, 2), (130, 1, 0, 1), (131, 0, 67, 3), (134, 0, 70, 3), (137, 0, 0, 3), (140, 1, 0, 1), (141, 0, 0, 2), (143, 0, 59, 3), (146, 0, 0, 1)], [(147, 0, 0, 1), (148, 0, 0, 1), (149, 0, 0, 3), (152, 1, 0, 1), (153, 1, 0, 1), (154, 0, 0, 2), (156, 0, 74, 3), (159, 1, 0, 1), (160, 0, 0, 3), (163, 0, 0, 3), (166, 1, 0, 1), (167, 0, 0, 1), (168, 0, 0, 0)]]
def ph_60 : List (List (Nat × Nat × Nat × Nat)) := [[(0, 0, 0, 1), (1, 1, 0, 1), (2, 0, 9, 3), (5, 0, 47, 3), (8, 1, 0, 1), (9, 0, 51, 3), (12, 0, 0, 1), (13, 0, 59, 3), (16, 0, 0, 1), (17, 1, 0, 1), (18, 0, 0, 1), (19, 1, 0, 1), (20, 0, 51, 3), (23, 0, 0, 1), (24, 0, 0, 2), (26, 1, 0, 1)], [(27, 0, 9, 3), (30, 0, 0, 1), (31, 1, 0, 1), (32, 0, 51, 3), (35, 1, 0, 1), (36, 0, 78, 3), (39, 0, 0, 1), (40, 0, 0, 1), (41, 0, 79, 3), (44, 0, 0, 28), (72, 1, 0, 1), (73, 1, 0, 1), (74, 0, 0, 1), (75, 0, 0, 1), (76, 0, 0, 1), (77, 0, 0, 2)], [(79, 0, 0, 1), (80, 0, 0, 1), (81, 1, 0, 1), (82, 0, 0, 2), (84, 0, 0, 1), (85, 0, 0, 1), (86, 1, 0, 1), (87, 1, 0, 1), (88, 0, 0, 1), (89, 0, 0, 1), (90, 0, 0, 1), (91, 0, 0, 1), (92, 1, 0, 1), (93, 0, 0, 1), (94, 0, 0, 0)]]
def ph_61 : List (List (Nat × Nat × Nat × Nat)) := [[(0, 1, 0, 1), (1, 0, 1, 3), (4, 0, 0, 1), (5, 0, 0, 0)]]
def ph_62 : List (List (Nat × Nat × Nat × Nat)) := [[(0, 1, 0, 1), (1, 1, 0, 1), (2, 0, 7, 3), (5, 1, 0, 1), (6, 1, 0, 1), (7, 0, 13, 3), (10, 1, 0, 1), (11, 1, 0, 1), (12, 0, 16, 3), (15, 1, 0, 1), (16, 0, 0, 2), (18, 0, 19, 3), (21, 0, 0, 1), (22, 0, 0, 0)]]
def ph_63 : List (List (Nat × Nat × Nat × Nat)) := [[(0, 1, 0, 1), (1, 0, 3, 3), (4, 1, 0, 1), (5, 1, 0, 2), (7, 0, 9, 3), (10, 0, 11, 3), (13, 1, 0, 1), (14, 1, 0, 2), (16, 0, 17, 3), (19, 0, 19, 3), (22, 1, 0, 1), (23, 1, 0, 2), (25, 0, 23, 3), (28, 0, 25, 3), (31, 1, 0, 1), (32, 1, 0, 2)], [(34, 0, 29, 3), (37, 0, 31, 3), (40, 1, 0, 1), (41, 1, 0, 2), (43, 0, 0, 2), (45, 0, 35, 3), (48, 1, 0, 1), (49, 1, 0, 2), (51, 0, 0, 2), (53, 0, 39, 3), (56, 1, 0, 1), (57, 0, 42, 3), (60, 0, 0, 1), (61, 5, 44, 3), (64, 0, 45, 3), (67, 1, 0, 1)], [(68, 1, 0, 2), (70, 0, 0, 2), (72, 0, 49, 3), (75, 1, 0, 1), (76, 0, 0, 1), (77, 0, 52, 3), (80, 0, 0, 1), (81, 1, 0, 1), (82, 1, 0, 1), (83, 1, 0, 1), (84, 0, 11, 3), (87, 0, 0, 1), (88, 0, 0, 3), (91, 1, 0, 1), (92, 0, 11, 3), (95, 1, 0, 1)], [(96, 0, 9, 3), (99, 0, 0, 1), (100, 5, 56, 3), (103, 0, 0, 1), (104, 0, 0, 3), (107, 0, 0, 3), (110, 0, 0, 1), (111, 1, 0, 1), (112, 1, 0, 1), (113, 1, 0, 1), (114, 0, 19, 3), (117, 0, 0, 1), (118, 0, 0, 3), (121, 1, 0, 1), (122, 0, 19, 3), (125, 1, 0, 1)], [(126, 0, 17, 3), (129, 0, 0, 1), (130, 5, 57, 3), (133, 0, 0, 1), (134, 0, 0, 3), (137, 0, 0, 3), (140, 0, 0, 1), (141, 1, 0, 1), (142, 1, 0, 1), (143, 1, 0, 1), (144, 0, 25, 3), (147, 0, 0, 1), (148, 0, 0, 3), (151, 1, 0, 1), (152, 0, 25, 3), (155, 1, 0, 1)], [(156, 0, 23, 3), (159, 0, 0, 1), (160, 5, 58, 3), (163, 0, 0, 1), (164, 0, 0, 3), (167, 0, 0, 3), (170, 0, 0, 1), (171, 1, 0, 1), (172, 1, 0, 1), (173, 1, 0, 1), (174, 0, 31, 3), (177, 0, 0, 1), (178, 0, 0, 3), (181, 1, 0, 1), (182, 0, 31, 3), (185, 1, 0, 1)], [(186, 0, 29, 3), (189, 0, 0, 1), (190, 5, 59, 3), (193, 0, 0, 1), (194, 0, 0, 3), (197, 0, 0, 3), (200, 0, 0, 1), (201, 0, 0, 0)]]
def ph_64 : List (List (Nat × Nat × Nat × Nat)) := [[(0, 1, 0, 1), (1, 1, 0, 1), (2, 0, 60, 3), (5, 0, 60, 3), (8, 1, 0, 1), (9, 1, 0, 1), (10, 0, 63, 3), (13, 0, 63, 3), (16, 1, 0, 1), (17, 1, 0, 1), (18, 0, 66, 3), (21, 0, 66, 3), (24, 1, 0, 1), (25, 1, 0, 1), (26, 0, 69, 3), (29, 0, 69, 3)], [(32, 1, 0, 1), (33, 1, 0, 1), (34, 0, 72, 3), (37, 0, 72, 3), (40, 1, 0, 1), (41, 1, 0, 1), (42, 0, 75, 3), (45, 0, 75, 3), (48, 1, 0, 1), (49, 1, 0, 1), (50, 0, 52, 3), (53, 0, 52, 3), (56, 0, 0, 1), (57, 1, 0, 1), (58, 1, 0, 1), (59, 1, 0, 1)], [(60, 0, 63, 3), (63, 0, 0, 3), (66, 1, 0, 1), (67, 0, 11, 3), (70, 1, 0, 1), (71, 0, 0, 1), (72, 1, 0, 1), (73, 0, 11, 3), (76, 1, 0, 1), (77, 0, 0, 1), (78, 0, 78, 3), (81, 0, 0, 3), (84, 0, 0, 3), (87, 0, 0, 1), (88, 1, 0, 1), (89, 1, 0, 1)], [(90, 1, 0, 1), (91, 0, 66, 3), (94, 0, 0, 3), (97, 1, 0, 1), (98, 0, 19, 3), (101, 1, 0, 1), (102, 0, 0, 1), (103, 1, 0, 1), (104, 1, 0, 1), (105, 0, 19, 3), (108, 1, 0, 1), (109, 0, 0, 1), (110, 1, 0, 1), (111, 0, 82, 3), (114, 1, 0, 1), (115, 0, 85, 3)], [(118, 1, 0, 1), (119, 0, 88, 3), (122, 0, 89, 3), (125, 0, 0, 3), (128, 0, 0, 3), (131, 0, 0, 1), (132, 1, 0, 1), (133, 1, 0, 1), (134, 1, 0, 1), (135, 0, 69, 3), (138, 0, 0, 3), (141, 1, 0, 1), (142, 0, 25, 3), (145, 1, 0, 1), (146, 0, 0, 1), (147, 1, 0, 1)], [(148, 1, 0, 1), (149, 0, 25, 3), (152, 1, 0, 1), (153, 0, 0, 1), (154, 1, 0, 1), (155, 0, 93, 3), (158, 1, 0, 1), (159, 0, 94, 3), (162, 1, 0, 1), (163, 0, 97, 3), (166, 1, 0, 1), (167, 0, 100, 3), (170, 1, 0, 1), (171, 0, 101, 3), (174, 0, 104, 3), (177, 0, 0, 3)], [(180, 0, 0, 3), (183, 0, 0, 1), (184, 1, 0, 1), (185, 1, 0, 1), (186, 1, 0, 1), (187, 0, 72, 3), (190, 0, 0, 3), (193, 1, 0, 1), (194, 0, 31, 3), (197, 1, 0, 1), (198, 0, 0, 1), (199, 1, 0, 1), (200, 1, 0, 1), (201, 0, 31, 3), (204, 1, 0, 1), (205, 0, 0, 1)], [(206, 1, 0, 1), (207, 0, 107, 3), (210, 1, 0, 1), (211, 0, 110, 3), (214, 1, 0, 1), (215, 0, 113, 3), (218, 1, 0, 1), (219, 0, 114, 3), (222, 0, 115, 3), (225, 0, 0, 3), (228, 0, 0, 3), (231, 1, 0, 1), (232, 0, 35, 3), (235, 0, 0, 1), (236, 1, 0, 1), (237, 0, 35, 3)], [(240, 0, 0, 1), (241, 1, 0, 1), (242, 0, 75, 3), (245, 0, 118, 3), (248, 1, 0, 1), (249, 0, 39, 3), (252, 0, 0, 1), (253, 1, 0, 1), (254, 0, 39, 3), (257, 0, 0, 1), (258, 1, 0, 1), (259, 0, 75, 3), (262, 0, 118, 3), (265, 1, 0, 1), (266, 0, 45, 3), (269, 1, 0, 1)], [(270, 0, 45, 3), (273, 0, 124, 3), (276, 0, 0, 1), (277, 0, 0, 0)]]
def ph_65 : List (List (Nat × Nat × Nat × Nat)) := [[(0, 1, 0, 1), (1, 0, 0, 3), (4, 1, 0, 1), (5, 1, 0, 1), (6, 0, 63, 3), (9, 0, 0, 3), (12, 0, 0, 1), (13, 0, 0, 3), (16, 0, 0, 1), (17, 0, 0, 1), (18, 0, 0, 0)]]
def ph_66 : List (List (Nat × Nat × Nat × Nat)) := [[(0, 1, 0, 1), (1, 0, 0, 3), (4, 1, 0, 1), (5, 1, 0, 1), (6, 0, 69, 3), (9, 0, 0, 3), (12, 0, 0, 1), (13, 0, 0, 3), (16, 0, 0, 1), (17, 0, 0, 1), (18, 0, 0, 0)]]
def ph_67 : List (List (Nat × Nat × Nat × Nat)) := [[(0, 1, 0, 1), (1, 0, 0, 3), (4, 1, 0, 1), (5, 1, 0, 1), (6, 0, 75, 3), (9, 0, 0, 3), (12, 0, 0, 1), (13, 0, 0, 3), (16, 0, 0, 1), (17, 0, 0, 1), (18, 0, 0, 0)]]
def ph_68 : List (List (Nat × Nat × Nat × Nat)) := [[(0, 1, 0, 1), (1, 0, 11, 3), (4, 1, 0, 1), (5, 0, 0, 1), (6, 0, 127, 3), (9, 0, 0, 1), (10, 0, 0, 3), (13, 1, 0, 1), (14, 0, 11, 3), (17, 1, 0, 1), (18, 0, 0, 1), (19, 0, 127, 3), (22, 0, 0, 1), (23, 0, 0, 3), (26, 0, 0, 1), (27, 0, 0, 3)], [(30, 0, 0, 1), (31, 0, 0, 1), (32, 0, 0, 0)]]
def ph_69 : List (List (Nat × Nat × Nat × Nat)) := [[(0, 1, 0, 1), (1, 0, 11, 3), (4, 1, 0, 1), (5, 0, 0, 1), (6, 0, 127, 3), (9, 1, 0, 2), (11, 0, 0, 3), (14, 0, 0, 1), (15, 0, 0, 3), (18, 0, 0, 1), (19, 0, 0, 1), (20, 0, 0, 0)]]
def ph_70 : List (List (Nat × Nat × Nat × Nat)) := [[(0, 0, 0, 1), (1, 1, 0, 1), (2, 0, 0, 1), (3, 1, 0, 1), (4, 1, 0, 1), (5, 1, 0, 1), (6, 0, 63, 3), (9, 0, 0, 3), (12, 1, 0, 1), (13, 1, 0, 1), (14, 0, 130, 3), (17, 0, 0, 3), (20, 0, 0, 3), (23, 0, 0, 3), (26, 0, 0, 3), (29, 1, 0, 1)], [(30, 0, 0, 1), (31, 0, 0, 0)]]
def ph_71 : List (List (Nat × Nat × Nat × Nat)) := [[(0, 1, 0, 1), (1, 0, 63, 3), (4, 1, 0, 1), (5, 0, 11, 3), (8, 0, 0, 1), (9, 0, 0, 3), (12, 1, 0, 1), (13, 0, 134, 3), (16, 0, 0, 3), (19, 0, 0, 1), (20, 0, 0, 3), (23, 0, 0, 1), (24, 0, 0, 1), (25, 0, 0, 0)]]
def ph_72 : List (List (Nat × Nat × Nat × Nat)) := [[(0, 1, 0, 1), (1, 0, 66, 3), (4, 1, 0, 1), (5, 0, 19, 3), (8, 0, 0, 1), (9, 0, 0, 3), (12, 0, 0, 1), (13, 0, 0, 3), (16, 0, 0, 1), (17, 0, 0, 1), (18, 0, 0, 0)]]
def ph_73 : List (List (Nat × Nat × Nat × Nat)) := [[(0, 1, 0, 1), (1, 0, 138, 3), (4, 0, 0, 3), (7, 1, 0, 2), (9, 0, 0, 1), (10, 1, 0, 1), (11, 0, 0, 1), (12, 0, 0, 1), (13, 0, 141, 3), (16, 0, 0, 1), (17, 0, 0, 0)]]
def ph_74 : List (List (Nat × Nat × Nat × Nat)) := [[(0, 1, 0, 1), (1, 0, 138, 3), (4, 0, 0, 3), (7, 1, 0, 2), (9, 0, 0, 1), (10, 1, 0, 1), (11, 1, 0, 1), (12, 0, 0, 1), (13, 0, 141, 3), (16, 0, 0, 2), (18, 1, 0, 1), (19, 0, 11, 3), (22, 0, 0, 2), (24, 0, 0, 1), (25, 0, 0, 2), (27, 0, 0, 2)], [(29, 1, 0, 1), (30, 0, 145, 3), (33, 0, 0, 2), (35, 0, 0, 2), (37, 0, 148, 3), (40, 0, 0, 2), (42, 1, 0, 1), (43, 0, 0, 1), (44, 0, 0, 3), (47, 1, 0, 1), (48, 0, 0, 3), (51, 0, 0, 1), (52, 0, 151, 3), (55, 0, 0, 2), (57, 0, 0, 2), (59, 0, 154, 3)], [(62, 1, 0, 1), (63, 0, 0, 2), (65, 0, 158, 3), (68, 0, 0, 2), (70, 0, 0, 1), (71, 0, 0, 0)]]
def ph_75 : List (List (Nat × Nat × Nat × Nat)) := [[(0, 1, 0, 1), (1, 0, 138, 3), (4, 0, 0, 3), (7, 1, 0, 2), (9, 0, 0, 1), (10, 1, 0, 1), (11, 1, 0, 1), (12, 1, 0, 1), (13, 0, 63, 3), (16, 0, 162, 3), (19, 1, 0, 1), (20, 1, 0, 1), (21, 1, 0, 1), (22, 0, 63, 3), (25, 0, 162, 3), (28, 1, 0, 1)], [(29, 0, 0, 1), (30, 0, 0, 1), (31, 0, 141, 3), (34, 1, 0, 1), (35, 1, 0, 1), (36, 0, 11, 3), (39, 1, 0, 1), (40, 0, 0, 1), (41, 1, 0, 1), (42, 0, 145, 3), (45, 1, 0, 1), (46, 0, 11, 3), (49, 1, 0, 1), (50, 0, 0, 1), (51, 1, 0, 1), (52, 0, 166, 3)], [(55, 1, 0, 1), (56, 0, 0, 1), (57, 0, 0, 0)]]
def ph_76 : List (List (Nat × Nat × Nat × Nat)) := [[(0, 1, 0, 1), (1, 0, 134, 3), (4, 0, 0, 3), (7, 1, 0, 2), (9, 0, 0, 1), (10, 1, 0, 1), (11, 0, 11, 3), (14, 1, 0, 1), (15, 0, 0, 1), (16, 0, 0, 1), (17, 0, 127, 3), (20, 1, 0, 1), (21, 0, 0, 1), (22, 1, 0, 1), (23, 0, 169, 3), (26, 0, 0, 1)], [(27, 0, 0, 1), (28, 0, 0, 0)]]
def ph_77 : List (List (Nat × Nat × Nat × Nat)) := [[(0, 1, 0, 1), (1, 0, 134, 3), (4, 0, 0, 3), (7, 1, 0, 2), (9, 0, 0, 1), (10, 1, 0, 1), (11, 1, 0, 1), (12, 1, 0, 2), (14, 0, 162, 3), (17, 1, 0, 1), (18, 0, 0, 1), (19, 1, 0, 1), (20, 0, 169, 3), (23, 1, 0, 1), (24, 0, 172, 3), (27, 0, 0, 1)], [(28, 0, 0, 0)]]
def ph_78 : List (List (Nat × Nat × Nat × Nat)) := [[(0, 1, 0, 1), (1, 0, 63, 3), (4, 1, 0, 1), (5, 1, 0, 1), (6, 0, 11, 3), (9, 1, 0, 1), (10, 0, 0, 1), (11, 1, 0, 1), (12, 1, 0, 1), (13, 0, 60, 3), (16, 0, 176, 3), (19, 1, 0, 1), (20, 0, 0, 1), (21, 0, 63, 3), (24, 0, 0, 1), (25, 0, 0, 1)], [(26, 0, 63, 3), (29, 1, 0, 1), (30, 1, 0, 1), (31, 1, 0, 1), (32, 0, 169, 3), (35, 1, 0, 1), (36, 0, 0, 1), (37, 0, 0, 0)]]
def ph_79 : List (List (Nat × Nat × Nat × Nat)) := [[(0, 1, 0, 1), (1, 0, 11, 3), (4, 1, 0, 1), (5, 0, 0, 1), (6, 1, 0, 2), (8, 0, 127, 3), (11, 1, 0, 1), (12, 0, 11, 3), (15, 1, 0, 1), (16, 0, 0, 1), (17, 1, 0, 1), (18, 0, 179, 3), (21, 1, 0, 1), (22, 0, 11, 3), (25, 1, 0, 1), (26, 0, 0, 1)], [(27, 1, 0, 1), (28, 0, 66, 3), (31, 0, 182, 3), (34, 0, 0, 1), (35, 0, 0, 0)]]
def ph_80 : List (List (Nat × Nat × Nat × Nat)) := [[(0, 1, 0, 1), (1, 0, 19, 3), (4, 1, 0, 1), (5, 0, 66, 3), (8, 0, 0, 1), (9, 1, 0, 1), (10, 1, 0, 1), (11, 1, 0, 1), (12, 0, 60, 3), (15, 0, 89, 3), (18, 1, 0, 1), (19, 0, 0, 1), (20, 0, 66, 3), (23, 0, 0, 1), (24, 0, 0, 1), (25, 0, 66, 3)], [(28, 0, 0, 1), (29, 0, 0, 0)]]
def ph_81 : List (List (Nat × Nat × Nat × Nat)) := [[(0, 1, 0, 1), (1, 0, 69, 3), (4, 1, 0, 1), (5, 0, 25, 3), (8, 0, 0, 1), (9, 0, 0, 3), (12, 1, 0, 2), (14, 0, 0, 1), (15, 1, 0, 1), (16, 0, 25, 3), (19, 1, 0, 1), (20, 0, 69, 3), (23, 0, 0, 1), (24, 1, 0, 1), (25, 1, 0, 1), (26, 1, 0, 1)], [(27, 1, 0, 1), (28, 0, 60, 3), (31, 1, 0, 1), (32, 0, 66, 3), (35, 0, 104, 3), (38, 1, 0, 1), (39, 0, 0, 1), (40, 0, 69, 3), (43, 0, 0, 1), (44, 0, 0, 1), (45, 0, 69, 3), (48, 1, 0, 1), (49, 0, 69, 3), (52, 0, 0, 1), (53, 0, 0, 1), (54, 0, 0, 1)], [(55, 0, 0, 0)]]
def ph_82 : List (List (Nat × Nat × Nat × Nat)) := [[(0, 1, 0, 1), (1, 0, 75, 3), (4, 1, 0, 1), (5, 0, 35, 3), (8, 0, 0, 1), (9, 0, 0, 3), (12, 1, 0, 2), (14, 0, 0, 1), (15, 1, 0, 1), (16, 0, 35, 3), (19, 1, 0, 1), (20, 0, 75, 3), (23, 1, 0, 1), (24, 0, 0, 1), (25, 1, 0, 1), (26, 0, 39, 3)], [(29, 1, 0, 1), (30, 0, 75, 3), (33, 1, 0, 1), (34, 0, 60, 3), (37, 0, 0, 1), (38, 1, 0, 1), (39, 0, 0, 1), (40, 0, 75, 3), (43, 0, 0, 1), (44, 0, 0, 1), (45, 0, 75, 3), (48, 1, 0, 1), (49, 0, 75, 3), (52, 0, 0, 1), (53, 0, 0, 1), (54, 0, 0, 1)], [(55, 0, 0, 0)]]
def ph_83 : List (List (Nat × Nat × Nat × Nat)) := [[(0, 1, 0, 1), (1, 0, 72, 3), (4, 1, 0, 1), (5, 0, 31, 3), (8, 0, 0, 1), (9, 0, 0, 3), (12, 1, 0, 2), (14, 0, 0, 1), (15, 1, 0, 1), (16, 0, 31, 3), (19, 1, 0, 1), (20, 0, 72, 3), (23, 0, 0, 1), (24, 1, 0, 1), (25, 1, 0, 1), (26, 1, 0, 1)], [(27, 0, 60, 3), (30, 1, 0, 1), (31, 0, 66, 3), (34, 0, 115, 3), (37, 1, 0, 1), (38, 0, 0, 1), (39, 0, 72, 3), (42, 0, 0, 1), (43, 0, 0, 1), (44, 0, 72, 3), (47, 1, 0, 1), (48, 0, 72, 3), (51, 0, 0, 1), (52, 0, 0, 1), (53, 0, 0, 1), (54, 0, 0, 0)]]
def ph_84 : List (List (Nat × Nat × Nat × Nat)) := [[(0, 1, 0, 1), (1, 0, 45, 3), (4, 1, 0, 1), (5, 0, 124, 3), (8, 0, 0, 1), (9, 1, 0, 1), (10, 1, 0, 1), (11, 1, 0, 1), (12, 0, 63, 3), (15, 0, 0, 3), (18, 1, 0, 1), (19, 1, 0, 1), (20, 0, 158, 3), (23, 0, 0, 3), (26, 0, 0, 3), (29, 0, 0, 1)], [(30, 0, 0, 0)]]
def ph_85 : List (List (Nat × Nat × Nat × Nat)) := [[(0, 1, 0, 1), (1, 0, 11, 3), (4, 1, 0, 1), (5, 0, 0, 1), (6, 1, 0, 1), (7, 1, 0, 1), (8, 0, 185, 3), (11, 4, 188, 3), (14, 0, 0, 3), (17, 0, 0, 1), (18, 1, 0, 1), (19, 1, 0, 1), (20, 0, 154, 3), (23, 0, 0, 3), (26, 1, 0, 1), (27, 0, 0, 1)], [(28, 1, 0, 1), (29, 1, 0, 1), (30, 0, 191, 3), (33, 0, 0, 1), (34, 0, 0, 1), (35, 0, 192, 3), (38, 0, 0, 1), (39, 0, 0, 3), (42, 0, 0, 1), (43, 0, 0, 3), (46, 0, 0, 1), (47, 0, 196, 3), (50, 1, 0, 1), (51, 1, 0, 1), (52, 0, 185, 3), (55, 0, 0, 1)], [(56, 0, 0, 3), (59, 1, 0, 1), (60, 1, 0, 2), (62, 1, 0, 1), (63, 1, 0, 1), (64, 0, 191, 3), (67, 0, 0, 1), (68, 0, 0, 1), (69, 0, 192, 3), (72, 0, 0, 3), (75, 0, 0, 1), (76, 0, 0, 3), (79, 0, 0, 1), (80, 0, 199, 3), (83, 0, 0, 1), (84, 0, 0, 0)]]
def ph_86 : List (List (Nat × Nat × Nat × Nat)) := [[(0, 1, 0, 1), (1, 0, 11, 3), (4, 1, 0, 1), (5, 0, 0, 1), (6, 0, 0, 2), (8, 1, 0, 1), (9, 0, 49, 3), (12, 0, 0, 1), (13, 1, 0, 1), (14, 0, 0, 1), (15, 1, 0, 1), (16, 0, 49, 3), (19, 0, 0, 1), (20, 1, 0, 1), (21, 0, 0, 1), (22, 1, 0, 1)], [(23, 0, 49, 3), (26, 0, 0, 1), (27, 0, 0, 2), (29, 0, 191, 3), (32, 0, 0, 2), (34, 0, 148, 3), (37, 0, 0, 1), (38, 0, 0, 1), (39, 1, 0, 1), (40, 0, 49, 3), (43, 0, 0, 1), (44, 0, 0, 2), (46, 0, 185, 3), (49, 0, 0, 1), (50, 1, 0, 1), (51, 0, 49, 3)], [(54, 0, 0, 1), (55, 0, 0, 2), (57, 0, 0, 1), (58, 1, 0, 1), (59, 0, 49, 3), (62, 0, 0, 1), (63, 0, 0, 2), (65, 0, 0, 1), (66, 1, 0, 1), (67, 0, 45, 3), (70, 1, 0, 1), (71, 1, 0, 1), (72, 0, 49, 3), (75, 0, 202, 3), (78, 0, 0, 1), (79, 0, 0, 0)]]
def ph_87 : List (List (Nat × Nat × Nat × Nat)) := [[(0, 1, 0, 1), (1, 0, 49, 3), (4, 0, 0, 1), (5, 1, 0, 1), (6, 0, 60, 3), (9, 0, 0, 1), (10, 1, 0, 1), (11, 0, 49, 3), (14, 0, 0, 1), (15, 1, 0, 1), (16, 0, 63, 3), (19, 0, 0, 1), (20, 1, 0, 1), (21, 0, 49, 3), (24, 0, 0, 1), (25, 0, 0, 1)], [(26, 0, 0, 1), (27, 1, 0, 1), (28, 0, 49, 3), (31, 0, 0, 1), (32, 1, 0, 1), (33, 0, 11, 3), (36, 1, 0, 1), (37, 0, 0, 1), (38, 0, 127, 3), (41, 0, 0, 1), (42, 1, 0, 1), (43, 0, 49, 3), (46, 0, 0, 1), (47, 0, 0, 1), (48, 0, 0, 1), (49, 1, 0, 1)], [(50, 0, 49, 3), (53, 0, 0, 1), (54, 0, 0, 1), (55, 0, 0, 1), (56, 1, 0, 1), (57, 0, 45, 3), (60, 1, 0, 1), (61, 1, 0, 1), (62, 0, 49, 3), (65, 0, 202, 3), (68, 0, 0, 1), (69, 0, 0, 0)]]
def ph_88 : List (List (Nat × Nat × Nat × Nat)) := [[(0, 1, 0, 1), (1, 0, 82, 3), (4, 0, 0, 1), (5, 0, 0, 3), (8, 1, 0, 1), (9, 0, 82, 3), (12, 0, 0, 1), (13, 0, 0, 3), (16, 0, 0, 1), (17, 0, 0, 1), (18, 1, 0, 1), (19, 0, 11, 3), (22, 1, 0, 1), (23, 0, 85, 3), (26, 0, 0, 1), (27, 1, 0, 1)], [(28, 1, 0, 1), (29, 0, 199, 3), (32, 1, 0, 1), (33, 0, 82, 3), (36, 0, 0, 1), (37, 0, 0, 3), (40, 0, 0, 1), (41, 0, 0, 3), (44, 0, 0, 1), (45, 0, 0, 3), (48, 1, 0, 1), (49, 0, 196, 3), (52, 0, 0, 3), (55, 1, 0, 1), (56, 0, 148, 3), (59, 1, 0, 1)], [(60, 0, 0, 3), (63, 0, 0, 1), (64, 0, 0, 3), (67, 0, 0, 1), (68, 0, 0, 1), (69, 0, 0, 0)]]
def ph_89 : List (List (Nat × Nat × Nat × Nat)) := [[(0, 1, 0, 1), (1, 1, 0, 1), (2, 0, 0, 1), (3, 1, 0, 1), (4, 1, 0, 1), (5, 1, 0, 1), (6, 0, 63, 3), (9, 0, 0, 3), (12, 1, 0, 1), (13, 0, 11, 3), (16, 1, 0, 1), (17, 0, 0, 1), (18, 0, 145, 3), (21, 0, 0, 3), (24, 1, 0, 1), (25, 0, 11, 3)], [(28, 1, 0, 1), (29, 0, 0, 1), (30, 0, 145, 3), (33, 1, 0, 1), (34, 0, 0, 3), (37, 0, 0, 3), (40, 1, 0, 1), (41, 0, 0, 1), (42, 0, 0, 0)]]
def ph_90 : List (List (Nat × Nat × Nat × Nat)) := [[(0, 0, 0, 1), (1, 1, 0, 1), (2, 0, 0, 1), (3, 1, 0, 1), (4, 1, 0, 1), (5, 1, 0, 1), (6, 1, 0, 1), (7, 0, 0, 3), (10, 1, 0, 1), (11, 1, 0, 1), (12, 0, 0, 1), (13, 0, 0, 1), (14, 0, 0, 1), (15, 0, 0, 3), (18, 0, 0, 3), (21, 1, 0, 1)], [(22, 0, 11, 3), (25, 1, 0, 1), (26, 0, 0, 1), (27, 0, 145, 3), (30, 0, 0, 3), (33, 1, 0, 1), (34, 0, 0, 1), (35, 1, 0, 1), (36, 0, 11, 3), (39, 1, 0, 1), (40, 0, 0, 1), (41, 0, 145, 3), (44, 0, 0, 1), (45, 0, 0, 1), (46, 1, 0, 1), (47, 1, 0, 1)], [(48, 0, 11, 3), (51, 1, 0, 1), (52, 0, 0, 1), (53, 0, 166, 3), (56, 0, 0, 3), (59, 1, 0, 1), (60, 0, 0, 1), (61, 1, 0, 1), (62, 0, 11, 3), (65, 1, 0, 1), (66, 0, 0, 1), (67, 0, 166, 3), (70, 0, 0, 1), (71, 0, 0, 1), (72, 1, 0, 1), (73, 0, 0, 3)], [(76, 0, 0, 3), (79, 1, 0, 1), (80, 0, 0, 1), (81, 0, 0, 0)]]
def ph_91 : List (List (Nat × Nat × Nat × Nat)) := [[(0, 1, 0, 1), (1, 0, 1, 3), (4, 1, 0, 1), (5, 0, 7, 3), (8, 0, 0, 1), (9, 2, 9, 3), (12, 0, 10, 3), (15, 1, 0, 1), (16, 0, 7, 3), (19, 0, 0, 1), (20, 2, 9, 3), (23, 0, 16, 3), (26, 1, 0, 1), (27, 0, 7, 3), (30, 0, 0, 1), (31, 2, 9, 3)], [(34, 0, 19, 3), (37, 1, 0, 1), (38, 0, 22, 3), (41, 0, 0, 1), (42, 1, 0, 1), (43, 0, 10, 3), (46, 2, 24, 3), (49, 0, 27, 3), (52, 1, 0, 1), (53, 0, 22, 3), (56, 0, 0, 1), (57, 1, 0, 1), (58, 0, 19, 3), (61, 2, 24, 3), (64, 0, 31, 3), (67, 1, 0, 1)], [(68, 0, 34, 3), (71, 0, 0, 1), (72, 1, 0, 1), (73, 0, 10, 3), (76, 2, 36, 3), (79, 0, 37, 3), (82, 1, 0, 1), (83, 0, 41, 3), (86, 0, 0, 1), (87, 1, 0, 1), (88, 0, 10, 3), (91, 2, 43, 3), (94, 0, 44, 3), (97, 1, 0, 1), (98, 2, 0, 3), (101, 0, 0, 2)], [(103, 0, 48, 3), (106, 1, 0, 1), (107, 0, 52, 3), (110, 0, 0, 1), (111, 1, 0, 1), (112, 0, 48, 3), (115, 2, 54, 3), (118, 0, 57, 3), (121, 1, 0, 1), (122, 0, 61, 3), (125, 0, 0, 1), (126, 5, 63, 3), (129, 0, 64, 3), (132, 1, 0, 1), (133, 1, 0, 2), (135, 0, 0, 1)], [(136, 0, 68, 4), (140, 0, 70, 3), (143, 1, 0, 1), (144, 0, 0, 1), (145, 1, 0, 2), (147, 0, 73, 4), (151, 0, 75, 3), (154, 1, 0, 1), (155, 0, 0, 1), (156, 0, 0, 2), (158, 0, 78, 3), (161, 1, 0, 1), (162, 0, 0, 1), (163, 0, 0, 2), (165, 0, 82, 3), (168, 1, 0, 1)], [(169, 0, 0, 1), (170, 0, 0, 2), (172, 0, 85, 3), (175, 1, 0, 1), (176, 0, 0, 1), (177, 0, 0, 2), (179, 0, 88, 3), (182, 0, 0, 1), (183, 1, 0, 1), (184, 1, 0, 1), (185, 1, 0, 1), (186, 0, 78, 3), (189, 0, 0, 1), (190, 0, 0, 3), (193, 1, 0, 1), (194, 0, 78, 3)], [(197, 1, 0, 1), (198, 0, 0, 1), (199, 0, 0, 1), (200, 0, 0, 3), (203, 0, 0, 3), (206, 0, 0, 1), (207, 1, 0, 1), (208, 1, 0, 1), (209, 1, 0, 1), (210, 0, 85, 3), (213, 0, 0, 1), (214, 0, 0, 3), (217, 1, 0, 1), (218, 0, 85, 3), (221, 1, 0, 1), (222, 0, 0, 1)], [(223, 0, 0, 1), (224, 0, 0, 3), (227, 0, 0, 3), (230, 0, 0, 1), (231, 0, 0, 0)]]
def ph_92 : List (List (Nat × Nat × Nat × Nat)) := [[(0, 1, 0, 1), (1, 0, 0, 1), (2, 0, 0, 3), (5, 1, 0, 1), (6, 1, 0, 2), (8, 0, 0, 3), (11, 0, 0, 1), (12, 0, 0, 1), (13, 1, 0, 1), (14, 0, 10, 3), (17, 0, 91, 3), (20, 1, 0, 1), (21, 0, 0, 1), (22, 2, 0, 3), (25, 0, 0, 3), (28, 1, 0, 2)], [(30, 0, 0, 1), (31, 1, 0, 1), (32, 0, 10, 3), (35, 0, 0, 1), (36, 0, 91, 3), (39, 1, 0, 1), (40, 0, 0, 1), (41, 0, 91, 3), (44, 1, 0, 1), (45, 0, 10, 3), (48, 0, 91, 3), (51, 0, 0, 1), (52, 0, 0, 0)]]
def ph_93 : List (List (Nat × Nat × Nat × Nat)) := [[(0, 1, 0, 1), (1, 0, 10, 3), (4, 0, 95, 3), (7, 0, 0, 1), (8, 0, 0, 0)]]
def ph_94 : List (List (Nat × Nat × Nat × Nat)) := [[(0, 1, 0, 1), (1, 0, 10, 3), (4, 1, 0, 1), (5, 0, 99, 3), (8, 0, 0, 3), (11, 1, 0, 1), (12, 1, 103, 3), (15, 0, 0, 3), (18, 0, 0, 1), (19, 0, 0, 1), (20, 1, 0, 1), (21, 0, 0, 1), (22, 0, 0, 3), (25, 1, 0, 1), (26, 0, 0, 1), (27, 0, 0, 3)], [(30, 1, 0, 1), (31, 0, 0, 1), (32, 0, 0, 3), (35, 0, 0, 1), (36, 0, 0, 1), (37, 0, 0, 2), (39, 0, 0, 3), (42, 0, 0, 2), (44, 1, 0, 1), (45, 0, 10, 3), (48, 0, 91, 3), (51, 0, 0, 3), (54, 0, 0, 1), (55, 0, 0, 1), (56, 1, 0, 1), (57, 0, 10, 3)], [(60, 1, 0, 1), (61, 0, 106, 3), (64, 0, 0, 3), (67, 1, 0, 2), (69, 0, 0, 1), (70, 1, 0, 1), (71, 0, 10, 3), (74, 1, 0, 1), (75, 1, 0, 1), (76, 1, 0, 1), (77, 0, 0, 2), (79, 0, 0, 2), (81, 0, 109, 3), (84, 0, 0, 1), (85, 0, 0, 0)]]
def ph_95 : List (List (Nat × Nat × Nat × Nat)) := [[(0, 1, 0, 1), (1, 0, 10, 3), (4, 1, 0, 1), (5, 0, 99, 3), (8, 0, 0, 3), (11, 0, 0, 1), (12, 0, 0, 1), (13, 1, 0, 1), (14, 0, 10, 3), (17, 0, 113, 3), (20, 1, 0, 1), (21, 0, 0, 1), (22, 0, 117, 3), (25, 0, 0, 1), (26, 0, 0, 3), (29, 1, 0, 2)], [(31, 0, 0, 1), (32, 1, 0, 1), (33, 0, 10, 3), (36, 1, 0, 1), (37, 0, 122, 3), (40, 0, 0, 1), (41, 0, 0, 0)]]
def ph_96 : List (List (Nat × Nat × Nat × Nat)) := [[(0, 1, 0, 1), (1, 0, 10, 3), (4, 1, 0, 1), (5, 0, 99, 3), (8, 0, 0, 3), (11, 1, 0, 1), (12, 0, 10, 3), (15, 1, 0, 1), (16, 0, 99, 3), (19, 0, 0, 3), (22, 1, 0, 1), (23, 1, 0, 1), (24, 0, 0, 3), (27, 0, 0, 1), (28, 0, 0, 1), (29, 1, 0, 1)], [(30, 0, 10, 3), (33, 1, 0, 1), (34, 0, 106, 3), (37, 0, 0, 3), (40, 1, 0, 1), (41, 0, 10, 3), (44, 1, 0, 1), (45, 0, 106, 3), (48, 0, 0, 3), (51, 1, 0, 2), (53, 0, 0, 1), (54, 1, 0, 1), (55, 0, 10, 3), (58, 1, 0, 1), (59, 1, 0, 1), (60, 0, 126, 3)], [(63, 0, 0, 1), (64, 0, 0, 0)]]
def ph_97 : List (List (Nat × Nat × Nat × Nat)) := [[(0, 1, 0, 1), (1, 0, 10, 3), (4, 1, 0, 1), (5, 0, 99, 3), (8, 0, 0, 3), (11, 0, 0, 1), (12, 0, 0, 1), (13, 1, 0, 1), (14, 0, 10, 3), (17, 1, 0, 1), (18, 0, 130, 3), (21, 0, 0, 3), (24, 1, 0, 2), (26, 0, 0, 1), (27, 1, 0, 1), (28, 0, 10, 3)], [(31, 1, 0, 1), (32, 0, 133, 3), (35, 0, 0, 1), (36, 0, 0, 0)]]
def ph_98 : List (List (Nat × Nat × Nat × Nat)) := [[(0, 1, 0, 1), (1, 0, 10, 3), (4, 1, 0, 1), (5, 0, 99, 3), (8, 0, 0, 3), (11, 0, 0, 1), (12, 0, 0, 1), (13, 1, 0, 1), (14, 0, 10, 3), (17, 0, 113, 3), (20, 1, 0, 1), (21, 0, 0, 1), (22, 1, 0, 1), (23, 1, 0, 1), (24, 0, 0, 52), (76, 1, 0, 1)], [(77, 0, 117, 3), (80, 0, 0, 1), (81, 1, 0, 1), (82, 0, 136, 3), (85, 0, 0, 1), (86, 1, 0, 1), (87, 0, 139, 3), (90, 0, 0, 1), (91, 1, 0, 1), (92, 0, 142, 3), (95, 0, 0, 1), (96, 1, 0, 1), (97, 0, 143, 3), (100, 0, 0, 1), (101, 1, 0, 1), (102, 0, 146, 3)], [(105, 0, 0, 1), (106, 1, 0, 1), (107, 0, 149, 3), (110, 0, 0, 1), (111, 1, 0, 1), (112, 0, 152, 3), (115, 0, 0, 3), (118, 0, 0, 1), (119, 0, 0, 3), (122, 0, 0, 1), (123, 0, 0, 1), (124, 1, 0, 1), (125, 0, 10, 3), (128, 1, 0, 1), (129, 0, 156, 3), (132, 0, 0, 1)], [(133, 0, 0, 1), (134, 0, 0, 1), (135, 0, 0, 0)]]
def ph_99 : List (List (Nat × Nat × Nat × Nat)) := [[(0, 1, 0, 1), (1, 0, 10, 3), (4, 1, 0, 1), (5, 0, 99, 3), (8, 0, 0, 3), (11, 0, 0, 1), (12, 0, 0, 1), (13, 0, 0, 1), (14, 1, 0, 1), (15, 1, 0, 1), (16, 1, 0, 1), (17, 1, 0, 1), (18, 1, 0, 1), (19, 0, 10, 3), (22, 0, 159, 3), (25, 0, 0, 3)], [(28, 1, 0, 1), (29, 0, 10, 3), (32, 1, 0, 1), (33, 0, 162, 3), (36, 1, 0, 1), (37, 0, 0, 1), (38, 0, 0, 1), (39, 0, 0, 1), (40, 0, 0, 3), (43, 1, 0, 1), (44, 0, 0, 1), (45, 1, 0, 1), (46, 0, 0, 1), (47, 0, 0, 1), (48, 1, 0, 1), (49, 0, 0, 3)], [(52, 0, 0, 3), (55, 1, 0, 1), (56, 0, 0, 1), (57, 0, 0, 0)]]
def ph_100 : List (List (Nat × Nat × Nat × Nat)) := [[(0, 1, 0, 1), (1, 0, 10, 3), (4, 1, 0, 1), (5, 0, 99, 3), (8, 0, 0, 3), (11, 1, 0, 1), (12, 0, 10, 3), (15, 1, 0, 1), (16, 0, 99, 3), (19, 0, 0, 3), (22, 0, 0, 1), (23, 0, 0, 1), (24, 1, 0, 1), (25, 0, 10, 3), (28, 1, 0, 1), (29, 0, 162, 3)], [(32, 1, 0, 1), (33, 0, 10, 3), (36, 1, 0, 1), (37, 0, 162, 3), (40, 0, 0, 1), (41, 1, 0, 1), (42, 1, 0, 1), (43, 0, 10, 3), (46, 0, 159, 3), (49, 0, 0, 1), (50, 0, 0, 1), (51, 0, 0, 2), (53, 0, 0, 2), (55, 0, 0, 3), (58, 1, 0, 1), (59, 0, 0, 2)], [(61, 0, 0, 1), (62, 0, 0, 1), (63, 0, 0, 1), (64, 0, 0, 3), (67, 0, 0, 2), (69, 0, 0, 1), (70, 0, 0, 3), (73, 0, 0, 3), (76, 1, 0, 2), (78, 0, 0, 1), (79, 0, 0, 0)]]
def ph_101 : List (List (Nat × Nat × Nat × Nat)) := [[(0, 1, 0, 1), (1, 0, 0, 1), (2, 0, 0, 3), (5, 1, 0, 1), (6, 1, 0, 2), (8, 0, 0, 3), (11, 0, 0, 1), (12, 0, 0, 1), (13, 1, 0, 1), (14, 0, 165, 3), (17, 1, 0, 1), (18, 0, 0, 1), (19, 1, 0, 1), (20, 0, 48, 3), (23, 0, 0, 1), (24, 0, 0, 3)], [(27, 1, 0, 2), (29, 0, 0, 1), (30, 0, 0, 1), (31, 0, 0, 2), (33, 0, 0, 2), (35, 1, 0, 1), (36, 0, 0, 3), (39, 1, 0, 1), (40, 0, 48, 3), (43, 1, 0, 1), (44, 0, 165, 3), (47, 0, 0, 2), (49, 0, 0, 1), (50, 1, 0, 1), (51, 1, 0, 2), (53, 0, 0, 2)], [(55, 0, 0, 1), (56, 0, 0, 1), (57, 0, 0, 1), (58, 0, 0, 1), (59, 0, 0, 1), (60, 0, 0, 3), (63, 0, 0, 3), (66, 1, 0, 1), (67, 0, 0, 1), (68, 0, 165, 3), (71, 1, 0, 1), (72, 0, 0, 1), (73, 0, 165, 3), (76, 1, 0, 1), (77, 0, 165, 3), (80, 0, 0, 1)], [(81, 0, 0, 0)]]
def ph_102 : List (List (Nat × Nat × Nat × Nat)) := [[(0, 1, 0, 1), (1, 0, 57, 3), (4, 1, 0, 1), (5, 0, 165, 3), (8, 0, 168, 3), (11, 1, 0, 1), (12, 0, 0, 1), (13, 0, 165, 3), (16, 0, 0, 1), (17, 1, 0, 1), (18, 1, 0, 1), (19, 1, 0, 2), (21, 0, 0, 3), (24, 1, 0, 1), (25, 0, 57, 3), (28, 0, 174, 3)], [(31, 0, 0, 3), (34, 1, 0, 1), (35, 0, 57, 3), (38, 0, 178, 3), (41, 0, 0, 3), (44, 1, 0, 2), (46, 1, 0, 1), (47, 0, 57, 3), (50, 1, 181, 3), (53, 0, 0, 1), (54, 0, 0, 1), (55, 0, 0, 3), (58, 0, 0, 3), (61, 1, 0, 1), (62, 0, 10, 3), (65, 1, 0, 1)], [(66, 0, 57, 3), (69, 0, 184, 3), (72, 0, 188, 3), (75, 1, 0, 1), (76, 0, 10, 3), (79, 0, 192, 3), (82, 0, 195, 3), (85, 0, 0, 1), (86, 0, 0, 0)]]
def ph_103 : List (List (Nat × Nat × Nat × Nat)) := [[(0, 1, 0, 1), (1, 0, 0, 3), (4, 1, 0, 1), (5, 1, 0, 2), (7, 0, 0, 3), (10, 1, 0, 1), (11, 0, 10, 3), (14, 1, 0, 1), (15, 0, 99, 3), (18, 0, 0, 3), (21, 0, 0, 1), (22, 0, 0, 1), (23, 1, 0, 1), (24, 0, 10, 3), (27, 1, 0, 1), (28, 1, 0, 1)], [(29, 0, 198, 3), (32, 0, 0, 1), (33, 0, 0, 0)]]
def ph_104 : List (List (Nat × Nat × Nat × Nat)) := [[(0, 1, 0, 1), (1, 1, 201, 3), (4, 0, 0, 3), (7, 1, 0, 1), (8, 0, 10, 3), (11, 1, 0, 1), (12, 0, 99, 3), (15, 0, 0, 3), (18, 1, 0, 1), (19, 0, 0, 1), (20, 0, 0, 3), (23, 1, 0, 1), (24, 2, 0, 3), (27, 0, 0, 3), (30, 0, 0, 1), (31, 0, 0, 1)], [(32, 1, 0, 1), (33, 0, 10, 3), (36, 1, 0, 1), (37, 0, 106, 3), (40, 0, 0, 3), (43, 1, 0, 2), (45, 0, 0, 1), (46, 1, 0, 1), (47, 0, 10, 3), (50, 1, 0, 1), (51, 1, 0, 1), (52, 1, 0, 1), (53, 0, 204, 3), (56, 0, 0, 1), (57, 0, 0, 0)]]
def ph_105 : List (List (Nat × Nat × Nat × Nat)) := [[(0, 1, 0, 1), (1, 0, 10, 3), (4, 1, 0, 1), (5, 0, 208, 3), (8, 0, 0, 3), (11, 0, 0, 1), (12, 0, 0, 1), (13, 1, 0, 1), (14, 0, 10, 3), (17, 0, 211, 3), (20, 1, 0, 1), (21, 0, 0, 1), (22, 1, 0, 1), (23, 1, 0, 1), (24, 0, 0, 32), (56, 1, 0, 1)], [(57, 0, 215, 3), (60, 0, 0, 1), (61, 1, 0, 1), (62, 0, 220, 3), (65, 0, 0, 1), (66, 1, 0, 1), (67, 0, 223, 3), (70, 0, 0, 1), (71, 1, 0, 1), (72, 0, 226, 3), (75, 0, 0, 1), (76, 0, 0, 1), (77, 0, 0, 1), (78, 0, 0, 0)]]
def ph_106 : List (List (Nat × Nat × Nat × Nat)) := [[(0, 1, 0, 1), (1, 0, 10, 3), (4, 1, 0, 1), (5, 0, 99, 3), (8, 0, 0, 3), (11, 1, 0, 1), (12, 0, 10, 3), (15, 1, 0, 1), (16, 0, 208, 3), (19, 0, 0, 3), (22, 1, 0, 1), (23, 1, 227, 3), (26, 0, 0, 3), (29, 0, 230, 3), (32, 0, 0, 1), (33, 1, 0, 1)], [(34, 0, 27, 3), (37, 1, 0, 1), (38, 0, 232, 3), (41, 1, 0, 1), (42, 0, 27, 3), (45, 0, 235, 3), (48, 1, 0, 1), (49, 0, 0, 1), (50, 1, 0, 1), (51, 1, 239, 3), (54, 0, 0, 1), (55, 0, 0, 0)]]
def ph_107 : List (List (Nat × Nat × Nat × Nat)) := [[(0, 1, 0, 1), (1, 0, 10, 3), (4, 1, 0, 1), (5, 0, 99, 3), (8, 0, 0, 3), (11, 1, 0, 1), (12, 1, 201, 3), (15, 0, 0, 3), (18, 1, 0, 1), (19, 1, 227, 3), (22, 0, 0, 3), (25, 0, 230, 3), (28, 0, 0, 1), (29, 1, 0, 1), (30, 0, 27, 3), (33, 1, 0, 1)], [(34, 1, 0, 1), (35, 0, 243, 3), (38, 1, 0, 1), (39, 1, 239, 3), (42, 0, 0, 1), (43, 0, 0, 0)]]
def ph_108 : List (List (Nat × Nat × Nat × Nat)) := [[(0, 1, 0, 1), (1, 0, 10, 3), (4, 1, 0, 1), (5, 0, 99, 3), (8, 0, 0, 3), (11, 0, 0, 1), (12, 0, 0, 1), (13, 1, 0, 1), (14, 0, 10, 3), (17, 1, 0, 1), (18, 0, 106, 3), (21, 0, 0, 3), (24, 1, 0, 2), (26, 0, 0, 1), (27, 1, 0, 1), (28, 0, 10, 3)], [(31, 1, 0, 1), (32, 0, 247, 3), (35, 0, 0, 1), (36, 0, 0, 0)]]
def ph_109 : List (List (Nat × Nat × Nat × Nat)) := [[(0, 1, 0, 1), (1, 0, 10, 3), (4, 1, 0, 1), (5, 0, 99, 3), (8, 0, 0, 3), (11, 1, 0, 1), (12, 0, 10, 3), (15, 1, 0, 1), (16, 0, 250, 3), (19, 0, 0, 3), (22, 0, 0, 1), (23, 0, 0, 1), (24, 1, 0, 1), (25, 0, 44, 3), (28, 0, 253, 3), (31, 1, 0, 1)], [(32, 0, 44, 3), (35, 0, 256, 3), (38, 1, 0, 1), (39, 0, 0, 1), (40, 1, 0, 1), (41, 0, 0, 1), (42, 0, 0, 1), (43, 0, 0, 1), (44, 0, 0, 1), (45, 0, 0, 0)]]
def ph_110 : List (List (Nat × Nat × Nat × Nat)) := [[(0, 1, 0, 1), (1, 0, 10, 3), (4, 1, 0, 1), (5, 0, 250, 3), (8, 0, 0, 3), (11, 0, 0, 1), (12, 0, 0, 1), (13, 1, 0, 1), (14, 0, 44, 3), (17, 1, 0, 1), (18, 0, 259, 3), (21, 0, 0, 1), (22, 0, 0, 0)]]
def ph_111 : List (List (Nat × Nat × Nat × Nat)) := [[(0, 1, 0, 1), (1, 0, 10, 3), (4, 1, 0, 1), (5, 0, 99, 3), (8, 0, 0, 3), (11, 1, 0, 1), (12, 0, 10, 3), (15, 1, 0, 1), (16, 0, 99, 3), (19, 0, 0, 3), (22, 1, 0, 1), (23, 1, 0, 1), (24, 0, 0, 3), (27, 0, 0, 1), (28, 0, 0, 1), (29, 1, 0, 1)], [(30, 0, 10, 3), (33, 1, 0, 1), (34, 0, 106, 3), (37, 0, 0, 3), (40, 1, 0, 1), (41, 0, 10, 3), (44, 1, 0, 1), (45, 0, 106, 3), (48, 0, 0, 3), (51, 1, 0, 2), (53, 0, 0, 1), (54, 1, 0, 1), (55, 0, 37, 3), (58, 1, 0, 1), (59, 0, 262, 3), (62, 1, 0, 1)], [(63, 0, 0, 1), (64, 0, 0, 1), (65, 0, 0, 1), (66, 0, 0, 3), (69, 1, 0, 2), (71, 0, 0, 1), (72, 1, 0, 1), (73, 0, 10, 3), (76, 1, 0, 1), (77, 1, 0, 1), (78, 0, 265, 3), (81, 0, 0, 1), (82, 0, 0, 0)]]
def ph_112 : List (List (Nat × Nat × Nat × Nat)) := [[(0, 1, 0, 1), (1, 0, 10, 3), (4, 1, 0, 1), (5, 0, 99, 3), (8, 0, 0, 3), (11, 0, 0, 1), (12, 0, 0, 1), (13, 1, 0, 1), (14, 0, 37, 3), (17, 1, 0, 1), (18, 0, 262, 3), (21, 0, 0, 1), (22, 0, 0, 0)]]
def ph_113 : List (List (Nat × Nat × Nat × Nat)) := [[(0, 1, 0, 1), (1, 0, 10, 3), (4, 1, 0, 1), (5, 0, 99, 3), (8, 0, 0, 3), (11, 1, 0, 1), (12, 1, 227, 3), (15, 0, 0, 3), (18, 0, 0, 1), (19, 0, 0, 1), (20, 1, 0, 1), (21, 0, 44, 3), (24, 1, 0, 1), (25, 0, 268, 3), (28, 1, 0, 1), (29, 1, 0, 1)], [(30, 0, 0, 3), (33, 1, 0, 1), (34, 0, 0, 3), (37, 0, 0, 1), (38, 0, 0, 3), (41, 0, 0, 1), (42, 0, 0, 1), (43, 1, 0, 1), (44, 0, 0, 3), (47, 0, 0, 1), (48, 0, 0, 3), (51, 1, 0, 1), (52, 0, 0, 1), (53, 0, 0, 0)]]
def ph_114 : List (List (Nat × Nat × Nat × Nat)) := [[(0, 1, 0, 1), (1, 0, 10, 3), (4, 1, 0, 1), (5, 0, 99, 3), (8, 0, 0, 3), (11, 0, 0, 1), (12, 0, 0, 1), (13, 1, 0, 1), (14, 0, 10, 3), (17, 0, 113, 3), (20, 1, 0, 1), (21, 0, 0, 1), (22, 0, 271, 3), (25, 0, 0, 1), (26, 0, 0, 3), (29, 1, 0, 2)], [(31, 0, 0, 1), (32, 1, 0, 1), (33, 0, 44, 3), (36, 1, 0, 1), (37, 0, 274, 3), (40, 0, 0, 1), (41, 0, 0, 0)]]
def ph_115 : List (List (Nat × Nat × Nat × Nat)) := [[(0, 1, 0, 1), (1, 0, 10, 3), (4, 1, 0, 1), (5, 0, 99, 3), (8, 0, 0, 3), (11, 1, 0, 1), (12, 0, 10, 3), (15, 1, 0, 1), (16, 0, 99, 3), (19, 0, 0, 3), (22, 0, 0, 1), (23, 0, 0, 1), (24, 1, 0, 1), (25, 0, 44, 3), (28, 1, 0, 1), (29, 1, 0, 1)], [(30, 0, 277, 3), (33, 0, 0, 1), (34, 0, 0, 0)]]
def ph_116 : List (List (Nat × Nat × Nat × Nat)) := [[(0, 1, 0, 1), (1, 0, 0, 3), (4, 1, 0, 1), (5, 0, 0, 1), (6, 0, 0, 3), (9, 0, 0, 1), (10, 0, 0, 1), (11, 1, 0, 1), (12, 0, 44, 3), (15, 0, 280, 3), (18, 1, 0, 1), (19, 1, 0, 1), (20, 0, 0, 3), (23, 1, 0, 1), (24, 1, 283, 3), (27, 0, 0, 3)], [(30, 1, 0, 1), (31, 0, 0, 1), (32, 0, 0, 0)]]
def ph_117 : List (List (Nat × Nat × Nat × Nat)) := [[(0, 1, 0, 1), (1, 0, 10, 3), (4, 1, 0, 1), (5, 0, 99, 3), (8, 0, 0, 3), (11, 1, 0, 1), (12, 0, 0, 3), (15, 1, 0, 1), (16, 0, 0, 1), (17, 0, 0, 3), (20, 0, 230, 3), (23, 0, 0, 1), (24, 1, 0, 1), (25, 0, 10, 3), (28, 1, 0, 1), (29, 0, 106, 3)], [(32, 0, 0, 3), (35, 0, 288, 3), (38, 0, 0, 1), (39, 0, 0, 1), (40, 1, 0, 1), (41, 1, 0, 1), (42, 0, 27, 3), (45, 1, 0, 1), (46, 0, 0, 1), (47, 0, 243, 3), (50, 1, 290, 3), (53, 0, 0, 1), (54, 0, 0, 2), (56, 0, 0, 1), (57, 0, 0, 2), (59, 0, 0, 2)], [(61, 0, 0, 1), (62, 1, 0, 1), (63, 0, 10, 3), (66, 0, 159, 3), (69, 0, 0, 1), (70, 0, 0, 3), (73, 0, 0, 2), (75, 0, 0, 1), (76, 0, 0, 1), (77, 0, 0, 3), (80, 1, 0, 1), (81, 1, 0, 1), (82, 0, 0, 2), (84, 0, 292, 3), (87, 0, 0, 2), (89, 0, 0, 2)], [(91, 0, 0, 3), (94, 0, 0, 2), (96, 0, 0, 3), (99, 1, 0, 1), (100, 0, 31, 3), (103, 0, 0, 2), (105, 0, 0, 1), (106, 0, 243, 3), (109, 1, 290, 3), (112, 0, 0, 1), (113, 0, 0, 2), (115, 0, 0, 2), (117, 0, 0, 2), (119, 0, 0, 1), (120, 0, 0, 3), (123, 0, 0, 2)], [(125, 1, 0, 1), (126, 0, 0, 2), (128, 0, 0, 2), (130, 0, 0, 3), (133, 0, 0, 3), (136, 1, 0, 1), (137, 0, 0, 3), (140, 1, 0, 1), (141, 0, 0, 1), (142, 0, 0, 3), (145, 0, 0, 2), (147, 0, 0, 1), (148, 0, 0, 0)]]
def ph_118 : List (List (Nat × Nat × Nat × Nat)) := [[(0, 1, 0, 1), (1, 0, 19, 3), (4, 1, 0, 1), (5, 0, 10, 3), (8, 0, 295, 3), (11, 1, 0, 1), (12, 0, 0, 1), (13, 0, 0, 3), (16, 1, 0, 1), (17, 0, 19, 3), (20, 1, 0, 1), (21, 0, 0, 1), (22, 0, 0, 1), (23, 1, 0, 1), (24, 0, 19, 3), (27, 0, 91, 3)], [(30, 0, 0, 1), (31, 0, 109, 3), (34, 0, 0, 3), (37, 1, 0, 2), (39, 0, 0, 3), (42, 1, 0, 1), (43, 0, 0, 1), (44, 1, 0, 1), (45, 0, 0, 1), (46, 0, 0, 3), (49, 1, 0, 1), (50, 0, 19, 3), (53, 1, 0, 1), (54, 0, 0, 1), (55, 0, 0, 1), (56, 1, 0, 1)], [(57, 0, 19, 3), (60, 0, 91, 3), (63, 0, 0, 1), (64, 0, 109, 3), (67, 0, 0, 3), (70, 1, 0, 2), (72, 0, 0, 3), (75, 1, 0, 1), (76, 0, 0, 1), (77, 1, 0, 1), (78, 0, 0, 1), (79, 0, 0, 3), (82, 1, 0, 1), (83, 0, 19, 3), (86, 1, 0, 1), (87, 0, 133, 3)], [(90, 0, 0, 3), (93, 1, 0, 2), (95, 0, 0, 3), (98, 1, 0, 1), (99, 0, 0, 1), (100, 1, 0, 1), (101, 0, 0, 1), (102, 0, 0, 1), (103, 1, 0, 1), (104, 1, 0, 1), (105, 1, 0, 1), (106, 0, 0, 3), (109, 1, 0, 1), (110, 0, 19, 3), (113, 1, 0, 1), (114, 0, 99, 3)], [(117, 0, 0, 3), (120, 1, 0, 1), (121, 0, 19, 3), (124, 1, 0, 1), (125, 0, 106, 3), (128, 0, 0, 3), (131, 1, 0, 2), (133, 0, 0, 1), (134, 1, 0, 1), (135, 0, 19, 3), (138, 1, 0, 1), (139, 1, 0, 1), (140, 0, 126, 3), (143, 0, 0, 1), (144, 0, 0, 0)]]
def ph_119 : List (List (Nat × Nat × Nat × Nat)) := [[(0, 1, 0, 1), (1, 0, 10, 3), (4, 1, 0, 1), (5, 0, 99, 3), (8, 0, 0, 3), (11, 1, 0, 1), (12, 0, 0, 3), (15, 1, 0, 1), (16, 0, 0, 1), (17, 0, 0, 3), (20, 1, 0, 1), (21, 1, 227, 3), (24, 0, 0, 3), (27, 0, 230, 3), (30, 0, 0, 1), (31, 1, 0, 1)], [(32, 0, 10, 3), (35, 1, 0, 1), (36, 0, 106, 3), (39, 0, 0, 3), (42, 0, 288, 3), (45, 0, 0, 1), (46, 1, 0, 1), (47, 0, 19, 3), (50, 1, 0, 1), (51, 0, 10, 3), (54, 0, 295, 3), (57, 1, 0, 1), (58, 0, 19, 3), (61, 0, 0, 1), (62, 1, 0, 1), (63, 0, 0, 1)], [(64, 0, 204, 3), (67, 0, 0, 2), (69, 0, 0, 2), (71, 0, 0, 3), (74, 0, 298, 3), (77, 0, 0, 1), (78, 0, 0, 1), (79, 0, 0, 2), (81, 0, 0, 2), (83, 1, 0, 1), (84, 0, 0, 3), (87, 1, 0, 1), (88, 0, 19, 3), (91, 1, 0, 1), (92, 0, 0, 1), (93, 0, 0, 1)], [(94, 1, 0, 1), (95, 0, 19, 3), (98, 0, 91, 3), (101, 0, 0, 1), (102, 0, 109, 3), (105, 0, 0, 3), (108, 0, 298, 3), (111, 0, 0, 1), (112, 0, 0, 3), (115, 0, 0, 3), (118, 1, 0, 1), (119, 0, 31, 3), (122, 0, 0, 2), (124, 0, 232, 3), (127, 0, 0, 1), (128, 0, 0, 2)], [(130, 0, 0, 1), (131, 0, 0, 2), (133, 0, 0, 2), (135, 1, 0, 1), (136, 0, 19, 3), (139, 0, 159, 3), (142, 0, 0, 3), (145, 0, 0, 2), (147, 1, 0, 1), (148, 0, 31, 3), (151, 0, 235, 3), (154, 0, 0, 2), (156, 0, 0, 1), (157, 0, 300, 3), (160, 0, 0, 2), (162, 0, 0, 3)], [(165, 0, 0, 3), (168, 0, 0, 2), (170, 1, 0, 1), (171, 1, 239, 3), (174, 0, 0, 1), (175, 0, 0, 0)]]
def ph_120 : List (List (Nat × Nat × Nat × Nat)) := [[(0, 1, 0, 1), (1, 0, 10, 3), (4, 0, 306, 3), (7, 1, 0, 1), (8, 1, 0, 1), (9, 0, 10, 3), (12, 1, 0, 1), (13, 0, 306, 3), (16, 1, 0, 1), (17, 0, 0, 1), (18, 0, 0, 0)]]
def ph_121 : List (List (Nat × Nat × Nat × Nat)) := [[(0, 1, 0, 1), (1, 0, 10, 3), (4, 0, 309, 3), (7, 1, 0, 1), (8, 1, 0, 1), (9, 0, 0, 3), (12, 1, 0, 2), (14, 0, 0, 1), (15, 1, 0, 1), (16, 0, 10, 3), (19, 1, 0, 1), (20, 0, 10, 3), (23, 0, 306, 3), (26, 4, 312, 3), (29, 0, 0, 1), (30, 2, 0, 3)], [(33, 0, 0, 1), (34, 0, 306, 3), (37, 1, 0, 1), (38, 0, 10, 3), (41, 0, 306, 3), (44, 1, 0, 2), (46, 0, 0, 1), (47, 1, 0, 1), (48, 0, 0, 1), (49, 1, 0, 1), (50, 0, 0, 1), (51, 1, 0, 1), (52, 1, 0, 1), (53, 1, 0, 1), (54, 0, 10, 3), (57, 0, 159, 3)], [(60, 0, 0, 3), (63, 1, 0, 1), (64, 0, 10, 3), (67, 1, 0, 1), (68, 0, 106, 3), (71, 0, 0, 3), (74, 0, 0, 3), (77, 1, 0, 1), (78, 0, 0, 3), (81, 1, 0, 1), (82, 0, 0, 1), (83, 0, 0, 3), (86, 0, 0, 3), (89, 0, 0, 3), (92, 1, 0, 2), (94, 0, 0, 1)], [(95, 0, 0, 0)]]
def ph_122 : List (List (Nat × Nat × Nat × Nat)) := [[(0, 1, 0, 1), (1, 0, 10, 3), (4, 1, 0, 1), (5, 0, 208, 3), (8, 0, 0, 3), (11, 0, 0, 1), (12, 0, 0, 1), (13, 1, 0, 1), (14, 0, 27, 3), (17, 1, 0, 1), (18, 0, 232, 3), (21, 1, 0, 1), (22, 0, 0, 1), (23, 0, 313, 3), (26, 0, 0, 1), (27, 1, 0, 1)], [(28, 1, 0, 1), (29, 1, 0, 1), (30, 0, 10, 3), (33, 0, 159, 3), (36, 0, 0, 3), (39, 1, 0, 1), (40, 0, 27, 3), (43, 0, 235, 3), (46, 1, 0, 1), (47, 0, 0, 1), (48, 0, 0, 1), (49, 0, 0, 1), (50, 0, 0, 3), (53, 0, 0, 3), (56, 1, 0, 1), (57, 0, 70, 3)], [(60, 1, 0, 1), (61, 0, 313, 3), (64, 0, 0, 1), (65, 0, 0, 1), (66, 1, 0, 1), (67, 0, 0, 1), (68, 0, 0, 1), (69, 1, 0, 1), (70, 0, 70, 3), (73, 1, 0, 1), (74, 0, 313, 3), (77, 0, 0, 1), (78, 0, 0, 1), (79, 1, 0, 1), (80, 0, 27, 3), (83, 0, 235, 3)], [(86, 1, 0, 1), (87, 0, 0, 1), (88, 0, 0, 1), (89, 1, 239, 3), (92, 0, 0, 1), (93, 1, 0, 1), (94, 0, 70, 3), (97, 1, 0, 1), (98, 0, 313, 3), (101, 0, 0, 1), (102, 0, 0, 1), (103, 1, 0, 1), (104, 0, 27, 3), (107, 0, 235, 3), (110, 1, 0, 1), (111, 0, 0, 1)], [(112, 0, 0, 1), (113, 1, 239, 3), (116, 0, 0, 1), (117, 1, 0, 1), (118, 0, 0, 1), (119, 0, 313, 3), (122, 0, 0, 1), (123, 0, 0, 1), (124, 0, 313, 3), (127, 0, 0, 3), (130, 0, 0, 3), (133, 1, 0, 1), (134, 0, 313, 3), (137, 0, 0, 1), (138, 0, 0, 0)]]
def ph_123 : List (List (Nat × Nat × Nat × Nat)) := [[(0, 1, 0, 1), (1, 1, 0, 1), (2, 1, 0, 1), (3, 0, 316, 3), (6, 0, 0, 3), (9, 0, 320, 3), (12, 0, 0, 1), (13, 1, 0, 1), (14, 0, 70, 3), (17, 1, 0, 1), (18, 0, 0, 1), (19, 1, 0, 1), (20, 0, 0, 1), (21, 0, 0, 1), (22, 0, 0, 0)]]
def ph_124 : List (List (Nat × Nat × Nat × Nat)) := [[(0, 1, 0, 1), (1, 1, 0, 1), (2, 1, 0, 1), (3, 0, 316, 3), (6, 0, 0, 3), (9, 0, 320, 3), (12, 0, 0, 1), (13, 1, 0, 1), (14, 0, 70, 3), (17, 1, 0, 1), (18, 0, 0, 1), (19, 1, 0, 1), (20, 0, 0, 1), (21, 0, 0, 2), (23, 1, 0, 1), (24, 0, 70, 3)], [(27, 1, 0, 1), (28, 0, 0, 1), (29, 1, 0, 1), (30, 1, 0, 1), (31, 0, 0, 1), (32, 0, 0, 2), (34, 0, 0, 1), (35, 0, 0, 0)]]
def ph_125 : List (List (Nat × Nat × Nat × Nat)) := [[(0, 1, 0, 1), (1, 0, 10, 3), (4, 1, 0, 1), (5, 0, 208, 3), (8, 0, 0, 3), (11, 0, 0, 1), (12, 0, 0, 1), (13, 1, 0, 1), (14, 0, 27, 3), (17, 1, 0, 1), (18, 0, 232, 3), (21, 1, 0, 1), (22, 0, 27, 3), (25, 0, 0, 1), (26, 0, 322, 3), (29, 1, 0, 1)], [(30, 0, 0, 1), (31, 1, 0, 1), (32, 1, 0, 1), (33, 1, 0, 1), (34, 0, 313, 3), (37, 0, 0, 3), (40, 1, 0, 1), (41, 1, 0, 1), (42, 1, 0, 1), (43, 0, 325, 3), (46, 0, 0, 3), (49, 1, 0, 1), (50, 0, 0, 1), (51, 0, 0, 1), (52, 0, 0, 1), (53, 1, 0, 1)], [(54, 0, 27, 3), (57, 1, 0, 1), (58, 0, 0, 1), (59, 0, 0, 1), (60, 0, 322, 3), (63, 1, 0, 1), (64, 0, 0, 3), (67, 0, 0, 3), (70, 1, 0, 1), (71, 1, 0, 2), (73, 0, 0, 3), (76, 0, 0, 1), (77, 0, 0, 3), (80, 2, 0, 3), (83, 0, 0, 1), (84, 0, 0, 0)]]
def ph_126 : List (List (Nat × Nat × Nat × Nat)) := [[(0, 1, 0, 1), (1, 0, 0, 3), (4, 1, 0, 1), (5, 1, 0, 1), (6, 0, 313, 3), (9, 0, 0, 3), (12, 1, 0, 1), (13, 0, 0, 3), (16, 1, 0, 1), (17, 0, 0, 1), (18, 0, 0, 3), (21, 0, 0, 1), (22, 0, 0, 3), (25, 0, 0, 1), (26, 0, 0, 1), (27, 0, 0, 0)]]
def ph_127 : List (List (Nat × Nat × Nat × Nat)) := [[(0, 1, 0, 1), (1, 1, 0, 2), (3, 0, 0, 3), (6, 1, 0, 1), (7, 0, 70, 3), (10, 1, 0, 1), (11, 0, 0, 1), (12, 0, 0, 1), (13, 0, 0, 1), (14, 1, 0, 1), (15, 0, 0, 1), (16, 0, 0, 1), (17, 0, 0, 3), (20, 0, 0, 1), (21, 0, 0, 1), (22, 1, 0, 1)], [(23, 0, 70, 3), (26, 1, 0, 1), (27, 0, 0, 1), (28, 0, 0, 1), (29, 0, 0, 1), (30, 1, 0, 1), (31, 0, 27, 3), (34, 0, 235, 3), (37, 1, 0, 1), (38, 0, 0, 1), (39, 0, 0, 1), (40, 1, 239, 3), (43, 0, 0, 1), (44, 0, 0, 3), (47, 1, 0, 1), (48, 0, 70, 3)], [(51, 1, 0, 1), (52, 0, 0, 1), (53, 0, 0, 1), (54, 0, 0, 1), (55, 1, 0, 1), (56, 0, 27, 3), (59, 0, 235, 3), (62, 1, 0, 1), (63, 0, 0, 1), (64, 0, 0, 1), (65, 1, 239, 3), (68, 0, 0, 1), (69, 0, 0, 3), (72, 0, 0, 1), (73, 0, 0, 3), (76, 0, 0, 1)], [(77, 0, 0, 1), (78, 0, 0, 0)]]
def ph_128 : List (List (Nat × Nat × Nat × Nat)) := [[(0, 1, 0, 1), (1, 1, 328, 3), (4, 0, 0, 3), (7, 1, 0, 1), (8, 0, 0, 1), (9, 0, 0, 3), (12, 1, 0, 1), (13, 0, 0, 1), (14, 0, 0, 3), (17, 0, 0, 1), (18, 0, 0, 1), (19, 1, 0, 1), (20, 0, 0, 1), (21, 0, 0, 3), (24, 1, 0, 1), (25, 1, 0, 1)], [(26, 0, 75, 3), (29, 1, 0, 1), (30, 0, 0, 1), (31, 0, 0, 1), (32, 0, 0, 3), (35, 0, 0, 1), (36, 0, 0, 1), (37, 1, 0, 1), (38, 0, 0, 3), (41, 1, 0, 2), (43, 0, 0, 1), (44, 1, 0, 1), (45, 0, 82, 3), (48, 1, 0, 1), (49, 1, 0, 1), (50, 0, 0, 1)], [(51, 0, 0, 1), (52, 0, 0, 2), (54, 0, 0, 2), (56, 1, 0, 1), (57, 0, 0, 3), (60, 1, 0, 1), (61, 0, 75, 3), (64, 1, 0, 1), (65, 0, 0, 1), (66, 0, 0, 2), (68, 0, 0, 1), (69, 0, 0, 1), (70, 0, 0, 3), (73, 0, 0, 3), (76, 1, 0, 1), (77, 0, 78, 3)], [(80, 1, 0, 1), (81, 1, 0, 1), (82, 0, 0, 1), (83, 0, 0, 1), (84, 0, 0, 1), (85, 0, 0, 0)]]
def ph_129 : List (List (Nat × Nat × Nat × Nat)) := [[(0, 1, 0, 1), (1, 1, 328, 3), (4, 0, 0, 3), (7, 0, 0, 1), (8, 0, 0, 1), (9, 1, 0, 1), (10, 0, 78, 3), (13, 1, 0, 1), (14, 0, 0, 1), (15, 0, 0, 1), (16, 0, 0, 3), (19, 1, 0, 2), (21, 0, 0, 1), (22, 1, 0, 1), (23, 0, 0, 3), (26, 1, 0, 1)], [(27, 1, 0, 1), (28, 0, 82, 3), (31, 1, 0, 1), (32, 0, 0, 1), (33, 0, 0, 3), (36, 1, 0, 2), (38, 0, 0, 1), (39, 1, 0, 1), (40, 0, 75, 3), (43, 1, 0, 1), (44, 0, 0, 1), (45, 1, 0, 1), (46, 1, 0, 1), (47, 0, 78, 3), (50, 1, 0, 1), (51, 0, 0, 1)], [(52, 1, 0, 1), (53, 1, 331, 3), (56, 0, 0, 1), (57, 0, 0, 1), (58, 0, 0, 1), (59, 0, 0, 0)]]
def ph_130 : List (List (Nat × Nat × Nat × Nat)) := [[(0, 1, 0, 1), (1, 1, 328, 3), (4, 0, 0, 3), (7, 1, 0, 1), (8, 0, 0, 3), (11, 1, 0, 1), (12, 0, 0, 1), (13, 0, 0, 3), (16, 0, 0, 1), (17, 0, 0, 1), (18, 1, 0, 1), (19, 0, 78, 3), (22, 1, 0, 1), (23, 0, 0, 1), (24, 0, 0, 1), (25, 0, 0, 3)], [(28, 1, 0, 2), (30, 0, 0, 1), (31, 1, 0, 1), (32, 0, 78, 3), (35, 1, 0, 1), (36, 0, 0, 1), (37, 1, 0, 1), (38, 0, 0, 3), (41, 1, 0, 2), (43, 0, 0, 1), (44, 1, 0, 1), (45, 0, 0, 3), (48, 1, 0, 1), (49, 1, 0, 1), (50, 0, 82, 3), (53, 1, 0, 1)], [(54, 0, 0, 1), (55, 0, 0, 3), (58, 1, 0, 2), (60, 0, 0, 1), (61, 1, 0, 1), (62, 0, 75, 3), (65, 1, 0, 1), (66, 0, 0, 1), (67, 1, 0, 1), (68, 0, 0, 1), (69, 0, 0, 1), (70, 0, 0, 0)]]
def ph_131 : List (List (Nat × Nat × Nat × Nat)) := [[(0, 1, 0, 1), (1, 0, 10, 3), (4, 1, 0, 1), (5, 0, 99, 3), (8, 0, 0, 3), (11, 1, 0, 1), (12, 1, 328, 3), (15, 0, 0, 3), (18, 0, 0, 2), (20, 0, 0, 3), (23, 0, 0, 2), (25, 1, 0, 2), (27, 0, 0, 3), (30, 0, 0, 1), (31, 0, 0, 1), (32, 1, 0, 1)], [(33, 0, 78, 3), (36, 1, 0, 1), (37, 0, 0, 1), (38, 0, 0, 1), (39, 0, 0, 3), (42, 1, 0, 2), (44, 0, 0, 1), (45, 1, 0, 1), (46, 0, 78, 3), (49, 1, 0, 1), (50, 0, 0, 1), (51, 0, 0, 1), (52, 0, 0, 3), (55, 1, 0, 2), (57, 0, 0, 1), (58, 0, 0, 1)], [(59, 0, 0, 2), (61, 0, 0, 1), (62, 0, 0, 2), (64, 0, 0, 2), (66, 0, 0, 2), (68, 0, 0, 3), (71, 1, 0, 1), (72, 0, 0, 3), (75, 1, 0, 1), (76, 1, 0, 1), (77, 0, 82, 3), (80, 1, 0, 1), (81, 0, 0, 1), (82, 0, 0, 2), (84, 0, 0, 1), (85, 0, 0, 3)], [(88, 1, 0, 2), (90, 0, 0, 1), (91, 1, 0, 1), (92, 0, 0, 1), (93, 1, 0, 1), (94, 1, 0, 1), (95, 0, 75, 3), (98, 1, 0, 1), (99, 0, 0, 1), (100, 1, 0, 1), (101, 0, 0, 2), (103, 0, 0, 1), (104, 0, 0, 1), (105, 0, 334, 3), (108, 0, 0, 3), (111, 0, 0, 3)], [(114, 0, 0, 3), (117, 0, 0, 3), (120, 0, 0, 2), (122, 0, 0, 1), (123, 0, 0, 0)]]
def ph_132 : List (List (Nat × Nat × Nat × Nat)) := [[(0, 1, 0, 1), (1, 1, 337, 3), (4, 0, 0, 3), (7, 0, 0, 1), (8, 0, 0, 1), (9, 1, 0, 1), (10, 0, 0, 30), (40, 1, 0, 1), (41, 0, 10, 3), (44, 1, 0, 1), (45, 0, 99, 3), (48, 0, 0, 3), (51, 1, 0, 1), (52, 1, 0, 1), (53, 0, 0, 1), (54, 1, 0, 1)], [(55, 0, 340, 3), (58, 0, 0, 3), (61, 0, 0, 1), (62, 0, 0, 1), (63, 1, 0, 1), (64, 0, 10, 3), (67, 1, 0, 1), (68, 0, 208, 3), (71, 0, 0, 3), (74, 1, 0, 1), (75, 1, 0, 1), (76, 0, 0, 1), (77, 1, 0, 1), (78, 0, 340, 3), (81, 0, 0, 3), (84, 0, 0, 1)], [(85, 0, 0, 1), (86, 1, 0, 1), (87, 1, 328, 3), (90, 0, 0, 3), (93, 1, 0, 1), (94, 1, 0, 1), (95, 1, 0, 1), (96, 0, 343, 3), (99, 0, 0, 3), (102, 0, 0, 1), (103, 0, 0, 1), (104, 1, 0, 1), (105, 1, 0, 1), (106, 0, 0, 1), (107, 0, 0, 1), (108, 0, 340, 3)], [(111, 0, 0, 1), (112, 0, 0, 1), (113, 0, 0, 1), (114, 0, 0, 0)]]
def ph_133 : List (List (Nat × Nat × Nat × Nat)) := [[(0, 1, 0, 1), (1, 1, 337, 3), (4, 0, 0, 3), (7, 1, 0, 1), (8, 0, 0, 3), (11, 1, 0, 1), (12, 1, 0, 2), (14, 0, 0, 3), (17, 1, 0, 1), (18, 1, 0, 2), (20, 0, 0, 3), (23, 1, 0, 1), (24, 1, 0, 2), (26, 0, 0, 3), (29, 0, 0, 1), (30, 0, 0, 1)], [(31, 1, 0, 1), (32, 1, 0, 1), (33, 0, 346, 3), (36, 1, 0, 1), (37, 1, 0, 1), (38, 0, 0, 1), (39, 0, 0, 3), (42, 1, 0, 2), (44, 0, 0, 1), (45, 1, 0, 1), (46, 1, 0, 2), (48, 0, 0, 3), (51, 1, 0, 1), (52, 1, 0, 1), (53, 0, 0, 3), (56, 0, 0, 1)], [(57, 0, 0, 3), (60, 0, 0, 1), (61, 0, 0, 3), (64, 1, 0, 1), (65, 1, 0, 2), (67, 0, 0, 3), (70, 1, 0, 1), (71, 1, 0, 1), (72, 0, 349, 3), (75, 1, 0, 1), (76, 1, 352, 3), (79, 0, 0, 3), (82, 0, 0, 1), (83, 0, 0, 3), (86, 0, 0, 1), (87, 0, 0, 2)], [(89, 0, 0, 2), (91, 0, 0, 3), (94, 1, 0, 1), (95, 0, 88, 3), (98, 1, 0, 1), (99, 0, 0, 1), (100, 0, 0, 3), (103, 1, 0, 2), (105, 0, 0, 1), (106, 0, 0, 0)]]
def ph_134 : List (List (Nat × Nat × Nat × Nat)) := [[(0, 1, 0, 1), (1, 0, 64, 3), (4, 0, 355, 3), (7, 1, 0, 1), (8, 1, 337, 3), (11, 0, 0, 3), (14, 1, 0, 1), (15, 0, 0, 3), (18, 1, 0, 1), (19, 0, 0, 1), (20, 0, 0, 3), (23, 0, 0, 1), (24, 0, 0, 1), (25, 1, 0, 1), (26, 1, 0, 1), (27, 0, 346, 3)], [(30, 0, 0, 2), (32, 0, 0, 2), (34, 0, 0, 1), (35, 0, 0, 3), (38, 0, 0, 2), (40, 1, 0, 2), (42, 0, 0, 3), (45, 0, 0, 1), (46, 0, 0, 1), (47, 1, 0, 1), (48, 0, 88, 3), (51, 1, 0, 1), (52, 0, 0, 1), (53, 0, 0, 2), (55, 0, 0, 2), (57, 0, 0, 3)], [(60, 1, 0, 1), (61, 0, 10, 3), (64, 0, 113, 3), (67, 0, 0, 2), (69, 0, 0, 1), (70, 0, 142, 3), (73, 0, 0, 3), (76, 1, 0, 1), (77, 0, 10, 3), (80, 0, 211, 3), (83, 0, 0, 2), (85, 0, 0, 1), (86, 0, 223, 3), (89, 0, 0, 2), (91, 1, 0, 1), (92, 0, 64, 3)], [(95, 1, 0, 1), (96, 1, 0, 1), (97, 0, 349, 3), (100, 0, 0, 2), (102, 0, 0, 2), (104, 1, 0, 1), (105, 1, 0, 1), (106, 0, 358, 3), (109, 0, 0, 1), (110, 0, 0, 0)]]
def ph_135 : List (List (Nat × Nat × Nat × Nat)) := [[(0, 1, 0, 1), (1, 0, 0, 3), (4, 1, 0, 1), (5, 1, 0, 1), (6, 0, 64, 3), (9, 0, 362, 3), (12, 0, 0, 3), (15, 1, 0, 2), (17, 0, 0, 1), (18, 1, 0, 1), (19, 0, 64, 3), (22, 0, 365, 3), (25, 1, 0, 1), (26, 0, 0, 1), (27, 0, 0, 1), (28, 0, 0, 0)]]
def ph_136 : List (List (Nat × Nat × Nat × Nat)) := [[(0, 1, 0, 1), (1, 0, 0, 59), (60, 1, 0, 1), (61, 0, 10, 3), (64, 0, 159, 3), (67, 0, 0, 1), (68, 1, 0, 1), (69, 0, 10, 3), (72, 0, 309, 3), (75, 0, 0, 1), (76, 1, 0, 1), (77, 0, 10, 3), (80, 0, 368, 3), (83, 0, 0, 1), (84, 1, 0, 1), (85, 0, 10, 3)], [(88, 0, 371, 3), (91, 0, 0, 1), (92, 1, 0, 1), (93, 0, 10, 3), (96, 0, 374, 3), (99, 0, 0, 1), (100, 1, 0, 1), (101, 0, 10, 3), (104, 0, 377, 3), (107, 0, 0, 1), (108, 1, 0, 1), (109, 0, 10, 3), (112, 0, 192, 3), (115, 0, 195, 3), (118, 0, 0, 1), (119, 1, 0, 1)], [(120, 0, 313, 3), (123, 0, 0, 1), (124, 1, 0, 1), (125, 0, 165, 3), (128, 0, 0, 1), (129, 1, 0, 1), (130, 0, 64, 3), (133, 0, 362, 3), (136, 0, 0, 1), (137, 1, 0, 1), (138, 0, 10, 3), (141, 0, 91, 3), (144, 0, 0, 1), (145, 0, 0, 1), (146, 0, 0, 1), (147, 0, 0, 0)]]
def ph_137 : List (List (Nat × Nat × Nat × Nat)) := [[(0, 1, 0, 1), (1, 0, 16, 3), (4, 1, 0, 1), (5, 0, 10, 3), (8, 0, 295, 3), (11, 1, 0, 1), (12, 0, 0, 1), (13, 0, 380, 3), (16, 0, 0, 1), (17, 0, 0, 1), (18, 0, 0, 0)]]
def ph_138 : List (List (Nat × Nat × Nat × Nat)) := [[(0, 1, 0, 1), (1, 0, 380, 3), (4, 0, 0, 3), (7, 1, 0, 2), (9, 0, 0, 1), (10, 1, 0, 1), (11, 0, 10, 3), (14, 1, 0, 1), (15, 0, 16, 3), (18, 0, 295, 3), (21, 0, 0, 1), (22, 0, 0, 1), (23, 0, 0, 0)]]
def ph_139 : List (List (Nat × Nat × Nat × Nat)) := [[(0, 1, 0, 1), (1, 0, 85, 3), (4, 1, 0, 1), (5, 1, 0, 1), (6, 0, 0, 1), (7, 1, 0, 1), (8, 0, 88, 3), (11, 1, 0, 1), (12, 1, 0, 1), (13, 0, 0, 1), (14, 0, 0, 1), (15, 0, 0, 1), (16, 0, 0, 0)]]
def ph_140 : List (List (Nat × Nat × Nat × Nat)) := [[(0, 1, 0, 1), (1, 0, 78, 3), (4, 1, 0, 1), (5, 0, 0, 1), (6, 0, 0, 1), (7, 0, 0, 3), (10, 1, 0, 1), (11, 1, 0, 1), (12, 0, 0, 1), (13, 0, 0, 1), (14, 0, 340, 3), (17, 0, 0, 1), (18, 1, 0, 1), (19, 1, 0, 1), (20, 1, 0, 2), (22, 1, 0, 1)], [(23, 0, 78, 3), (26, 1, 0, 1), (27, 0, 0, 1), (28, 0, 0, 1), (29, 1, 0, 1), (30, 0, 82, 3), (33, 1, 0, 1), (34, 0, 0, 1), (35, 0, 340, 3), (38, 0, 0, 1), (39, 0, 0, 0)]]
def ph_141 : List (List (Nat × Nat × Nat × Nat)) := [[(0, 1, 0, 1), (1, 0, 85, 3), (4, 1, 0, 1), (5, 0, 0, 1), (6, 1, 0, 1), (7, 1, 0, 1), (8, 0, 0, 3), (11, 1, 0, 1), (12, 0, 10, 3), (15, 1, 0, 1), (16, 0, 88, 3), (19, 1, 0, 1), (20, 0, 0, 1), (21, 0, 99, 3), (24, 0, 0, 3), (27, 0, 0, 1)], [(28, 0, 0, 1), (29, 1, 0, 1), (30, 0, 0, 1), (31, 0, 0, 3), (34, 1, 0, 1), (35, 0, 10, 3), (38, 1, 0, 1), (39, 0, 88, 3), (42, 1, 0, 1), (43, 0, 0, 1), (44, 0, 208, 3), (47, 0, 0, 3), (50, 0, 0, 1), (51, 0, 0, 1), (52, 1, 0, 1), (53, 0, 0, 1)], [(54, 0, 0, 0)]]
def ph_142 : List (List (Nat × Nat × Nat × Nat)) := [[(0, 1, 0, 1), (1, 0, 85, 3), (4, 1, 0, 1), (5, 0, 0, 1), (6, 0, 0, 3), (9, 1, 0, 1), (10, 0, 10, 3), (13, 0, 113, 3), (16, 1, 0, 1), (17, 0, 88, 3), (20, 1, 0, 1), (21, 0, 0, 1), (22, 0, 0, 1), (23, 0, 117, 3), (26, 0, 0, 3), (29, 1, 0, 2)], [(31, 0, 0, 1), (32, 0, 0, 0)]]
def ph_143 : List (List (Nat × Nat × Nat × Nat)) := [[(0, 1, 0, 1), (1, 1, 0, 1), (2, 0, 0, 3), (5, 0, 0, 1), (6, 0, 0, 1), (7, 1, 0, 1), (8, 0, 0, 3), (11, 1, 0, 1), (12, 1, 0, 2), (14, 0, 0, 3), (17, 0, 0, 1), (18, 0, 0, 3), (21, 0, 0, 1), (22, 0, 0, 3), (25, 1, 0, 1), (26, 0, 0, 1)], [(27, 0, 0, 3), (30, 1, 0, 1), (31, 0, 0, 1), (32, 0, 0, 3), (35, 1, 0, 1), (36, 0, 0, 1), (37, 0, 0, 3), (40, 0, 0, 1), (41, 0, 0, 3), (44, 0, 0, 1), (45, 0, 0, 1), (46, 0, 0, 0)]]
def ph_144 : List (List (Nat × Nat × Nat × Nat)) := [[(0, 1, 0, 1), (1, 0, 0, 35), (36, 1, 0, 1), (37, 0, 0, 1), (38, 0, 0, 1), (39, 1, 0, 1), (40, 0, 0, 1), (41, 0, 0, 1), (42, 1, 0, 1), (43, 0, 0, 3), (46, 0, 0, 1), (47, 0, 0, 3), (50, 0, 0, 1), (51, 0, 0, 1), (52, 1, 0, 1), (53, 0, 0, 1)], [(54, 0, 0, 0)]]
def ph_145 : List (List (Nat × Nat × Nat × Nat)) := [[(0, 1, 0, 1), (1, 0, 0, 3), (4, 1, 0, 1), (5, 0, 0, 1), (6, 0, 0, 3), (9, 0, 0, 1), (10, 0, 0, 3), (13, 0, 0, 1), (14, 0, 0, 1), (15, 0, 0, 0)]]
def ph_146 : List (List (Nat × Nat × Nat × Nat)) := [[(0, 1, 0, 1), (1, 0, 0, 3), (4, 1, 0, 1), (5, 0, 0, 1), (6, 0, 0, 3), (9, 0, 0, 1), (10, 0, 0, 3), (13, 0, 0, 1), (14, 0, 0, 1), (15, 0, 0, 0)]]
def ph_147 : List (List (Nat × Nat × Nat × Nat)) := [[(0, 1, 0, 1), (1, 0, 0, 3), (4, 1, 0, 1), (5, 0, 0, 1), (6, 0, 0, 3), (9, 0, 0, 1), (10, 0, 0, 3), (13, 0, 0, 1), (14, 0, 0, 1), (15, 0, 0, 0)]]
def ph_148 : List (List (Nat × Nat × Nat × Nat)) := [[(0, 1, 0, 1), (1, 0, 0, 3), (4, 1, 0, 1), (5, 0, 0, 1), (6, 0, 0, 3), (9, 0, 0, 1), (10, 0, 0, 3), (13, 0, 0, 1), (14, 0, 0, 1), (15, 0, 0, 0)]]
def ph_149 : List (List (Nat × Nat × Nat × Nat)) := [[(0, 1, 0, 1), (1, 0, 0, 1), (2, 0, 0, 3), (5, 1, 0, 1), (6, 0, 0, 1), (7, 0, 0, 3), (10, 1, 0, 1), (11, 0, 0, 1), (12, 0, 0, 3), (15, 0, 0, 1), (16, 0, 0, 3), (19, 0, 0, 1), (20, 0, 0, 1), (21, 0, 0, 0)]]
def ph_150 : List (List (Nat × Nat × Nat × Nat)) := [[(0, 1, 0, 1), (1, 0, 1, 3), (4, 1, 0, 1), (5, 2, 0, 3), (8, 0, 0, 2), (10, 0, 7, 3), (13, 1, 0, 1), (14, 2, 0, 3), (17, 0, 0, 2), (19, 0, 13, 3), (22, 1, 0, 1), (23, 2, 0, 3), (26, 0, 0, 2), (28, 0, 16, 3), (31, 1, 0, 1), (32, 2, 0, 3)], [(35, 0, 0, 2), (37, 0, 19, 3), (40, 1, 0, 1), (41, 2, 0, 3), (44, 0, 0, 2), (46, 0, 22, 3), (49, 1, 0, 1), (50, 1, 0, 2), (52, 0, 0, 2), (54, 0, 25, 3), (57, 1, 0, 1), (58, 1, 0, 2), (60, 0, 0, 2), (62, 0, 28, 3), (65, 1, 0, 1), (66, 2, 0, 3)], [(69, 0, 0, 2), (71, 0, 31, 3), (74, 1, 0, 1), (75, 1, 0, 2), (77, 0, 0, 2), (79, 0, 34, 3), (82, 1, 0, 1), (83, 1, 0, 2), (85, 0, 0, 2), (87, 0, 37, 3), (90, 1, 0, 1), (91, 1, 0, 2), (93, 0, 0, 2), (95, 0, 41, 3), (98, 1, 0, 1), (99, 1, 0, 2)], [(101, 0, 0, 2), (103, 0, 44, 3), (106, 1, 0, 1), (107, 0, 0, 1), (108, 0, 0, 2), (110, 0, 0, 1), (111, 0, 0, 1), (112, 0, 0, 1), (113, 0, 0, 1), (114, 0, 0, 1), (115, 0, 0, 1), (116, 0, 0, 1), (117, 0, 0, 1), (118, 0, 0, 1), (119, 0, 0, 1), (120, 0, 0, 1)], [(121, 0, 0, 1), (122, 0, 0, 1), (123, 0, 0, 1), (124, 0, 0, 1), (125, 0, 0, 1), (126, 0, 47, 3), (129, 1, 0, 1), (130, 0, 0, 1), (131, 0, 0, 2), (133, 0, 50, 3), (136, 1, 0, 1), (137, 2, 0, 3), (140, 0, 0, 2), (142, 0, 53, 3), (145, 1, 0, 1), (146, 0, 0, 1)], [(147, 0, 0, 2), (149, 0, 0, 1), (150, 0, 0, 1), (151, 0, 0, 1), (152, 0, 0, 1), (153, 0, 0, 1), (154, 0, 0, 1), (155, 0, 0, 1), (156, 0, 0, 1), (157, 0, 0, 1), (158, 0, 0, 1), (159, 0, 0, 1), (160, 0, 0, 1), (161, 0, 0, 1), (162, 0, 0, 1), (163, 0, 0, 1)], [(164, 0, 0, 1), (165, 0, 56, 3), (168, 1, 0, 1), (169, 0, 0, 1), (170, 0, 0, 2), (172, 0, 59, 3), (175, 1, 0, 1), (176, 0, 0, 1), (177, 0, 0, 2), (179, 0, 62, 3), (182, 1, 0, 1), (183, 1, 0, 2), (185, 0, 0, 2), (187, 0, 65, 3), (190, 1, 0, 1), (191, 0, 7, 3)], [(194, 1, 0, 2), (196, 0, 0, 1), (197, 0, 0, 1), (198, 0, 0, 1), (199, 0, 0, 0)]]
def ph_151 : List (List (Nat × Nat × Nat × Nat)) := [[(0, 1, 0, 1), (1, 1, 0, 1), (2, 0, 0, 1), (3, 0, 0, 3), (6, 1, 0, 1), (7, 0, 0, 2), (9, 0, 0, 1), (10, 0, 0, 3), (13, 0, 0, 1), (14, 0, 0, 3), (17, 0, 0, 1), (18, 0, 0, 1), (19, 0, 0, 0)]]
def ph_152 : List (List (Nat × Nat × Nat × Nat)) := [[(0, 1, 0, 1), (1, 0, 7, 3), (4, 1, 0, 2), (6, 1, 0, 2), (8, 1, 0, 1), (9, 0, 0, 1), (10, 0, 0, 1), (11, 1, 0, 1), (12, 0, 0, 1), (13, 0, 0, 1), (14, 0, 0, 1), (15, 0, 0, 0)]]
def ph_153 : List (List (Nat × Nat × Nat × Nat)) := [[(0, 1, 0, 1), (1, 0, 0, 1), (2, 0, 0, 1), (3, 1, 0, 1), (4, 0, 7, 3), (7, 0, 0, 1), (8, 0, 0, 1), (9, 0, 0, 1), (10, 0, 0, 1), (11, 0, 0, 1), (12, 1, 68, 3), (15, 0, 0, 1), (16, 0, 0, 0)]]
def ph_154 : List (List (Nat × Nat × Nat × Nat)) := [[(0, 1, 0, 1), (1, 1, 0, 1), (2, 0, 0, 1), (3, 0, 72, 3), (6, 0, 0, 1), (7, 0, 0, 1), (8, 1, 76, 3), (11, 1, 68, 3), (14, 0, 0, 1), (15, 0, 0, 0)]]
def ph_155 : List (List (Nat × Nat × Nat × Nat)) := [[(0, 1, 0, 1), (1, 1, 0, 1), (2, 0, 0, 1), (3, 0, 72, 3), (6, 0, 0, 1), (7, 0, 0, 3), (10, 1, 0, 1), (11, 1, 0, 1), (12, 0, 0, 1), (13, 0, 72, 3), (16, 0, 0, 1), (17, 0, 0, 3), (20, 1, 0, 1), (21, 1, 0, 1), (22, 0, 0, 1), (23, 0, 72, 3)], [(26, 0, 0, 1), (27, 0, 0, 3), (30, 0, 0, 1), (31, 0, 0, 3), (34, 0, 0, 1), (35, 0, 0, 1), (36, 0, 0, 0)]]
def ph_156 : List (List (Nat × Nat × Nat × Nat)) := [[(0, 0, 0, 1), (1, 1, 0, 1), (2, 0, 0, 1), (3, 1, 0, 1), (4, 1, 0, 1), (5, 1, 0, 1), (6, 0, 7, 3), (9, 0, 0, 1), (10, 0, 0, 1), (11, 0, 0, 3), (14, 1, 0, 1), (15, 1, 0, 1), (16, 1, 0, 1), (17, 0, 78, 3), (20, 0, 0, 3), (23, 0, 0, 1)], [(24, 0, 0, 3), (27, 0, 0, 1), (28, 0, 0, 1), (29, 1, 0, 1), (30, 0, 0, 3), (33, 0, 0, 3), (36, 1, 0, 1), (37, 0, 0, 1), (38, 0, 0, 0)]]
def ph_157 : List (List (Nat × Nat × Nat × Nat)) := [[(0, 1, 0, 1), (1, 0, 0, 1), (2, 0, 0, 1), (3, 0, 0, 3), (6, 1, 0, 1), (7, 0, 0, 1), (8, 0, 0, 3), (11, 1, 0, 1), (12, 0, 0, 2), (14, 1, 0, 1), (15, 0, 0, 2), (17, 0, 0, 2), (19, 0, 0, 1), (20, 0, 0, 1), (21, 0, 0, 3), (24, 0, 0, 2)], [(26, 0, 0, 2), (28, 0, 0, 1), (29, 0, 0, 2), (31, 0, 0, 2), (33, 0, 0, 2), (35, 0, 0, 2), (37, 0, 0, 2), (39, 0, 0, 3), (42, 0, 0, 2), (44, 0, 0, 1), (45, 0, 0, 0)]]
def ph_158 : List (List (Nat × Nat × Nat × Nat)) := [[(0, 1, 0, 1), (1, 1, 0, 1), (2, 1, 82, 3), (5, 0, 0, 2), (7, 0, 0, 2), (9, 0, 0, 3), (12, 1, 0, 1), (13, 0, 0, 2), (15, 0, 0, 1), (16, 0, 0, 3), (19, 1, 0, 1), (20, 0, 0, 2), (22, 0, 0, 1), (23, 0, 0, 1), (24, 0, 0, 0)]]
def ph_159 : List (List (Nat × Nat × Nat × Nat)) := [[(0, 2, 0, 3), (3, 0, 0, 1), (4, 1, 0, 1), (5, 0, 7, 3), (8, 0, 0, 1), (9, 0, 0, 1), (10, 0, 0, 1), (11, 0, 0, 1), (12, 1, 0, 1), (13, 1, 0, 1), (14, 0, 7, 3), (17, 1, 0, 1), (18, 1, 0, 1), (19, 0, 0, 1), (20, 1, 0, 1), (21, 0, 7, 3)], [(24, 1, 0, 1), (25, 0, 0, 1), (26, 0, 0, 1), (27, 1, 0, 1), (28, 0, 0, 1), (29, 1, 0, 1), (30, 0, 7, 3), (33, 1, 0, 1), (34, 0, 0, 1), (35, 0, 0, 1), (36, 1, 0, 1), (37, 0, 7, 3), (40, 0, 0, 1), (41, 0, 0, 1), (42, 0, 0, 1), (43, 1, 0, 1)], [(44, 0, 7, 3), (47, 0, 0, 1), (48, 0, 0, 1), (49, 0, 0, 1), (50, 0, 0, 1), (51, 0, 0, 1), (52, 0, 0, 1), (53, 0, 0, 1), (54, 0, 0, 0)]]
def ph_160 : List (List (Nat × Nat × Nat × Nat)) := [[(0, 1, 0, 1), (1, 0, 0, 1), (2, 0, 0, 1), (3, 1, 86, 3), (6, 1, 68, 3), (9, 0, 0, 3), (12, 0, 0, 1), (13, 0, 0, 1), (14, 1, 0, 1), (15, 0, 7, 3), (18, 0, 0, 1), (19, 0, 0, 1), (20, 1, 0, 1), (21, 0, 0, 1), (22, 2, 0, 3), (25, 0, 0, 3)], [(28, 1, 0, 2), (30, 0, 0, 1), (31, 1, 0, 1), (32, 0, 7, 3), (35, 0, 0, 1), (36, 0, 0, 1), (37, 0, 0, 1), (38, 1, 0, 1), (39, 0, 0, 1), (40, 0, 0, 1), (41, 1, 0, 1), (42, 0, 7, 3), (45, 0, 0, 1), (46, 0, 0, 1), (47, 0, 0, 1), (48, 0, 0, 0)]]
def ph_161 : List (List (Nat × Nat × Nat × Nat)) := [[(0, 1, 0, 1), (1, 0, 7, 3), (4, 0, 0, 1), (5, 0, 0, 1), (6, 1, 0, 2), (8, 0, 0, 3), (11, 1, 0, 1), (12, 0, 7, 3), (15, 0, 0, 1), (16, 0, 0, 1), (17, 1, 0, 2), (19, 0, 0, 3), (22, 0, 0, 1), (23, 0, 0, 3), (26, 0, 0, 1), (27, 0, 0, 1)], [(28, 0, 0, 0)]]
def ph_162 : List (List (Nat × Nat × Nat × Nat)) := [[(0, 1, 0, 1), (1, 0, 7, 3), (4, 0, 0, 1), (5, 0, 0, 1), (6, 0, 0, 2), (8, 1, 0, 2), (10, 1, 0, 2), (12, 0, 0, 2), (14, 0, 0, 1), (15, 0, 0, 1), (16, 0, 0, 2), (18, 1, 0, 1), (19, 0, 7, 3), (22, 0, 0, 2), (24, 0, 0, 1), (25, 0, 0, 1)], [(26, 1, 0, 1), (27, 0, 0, 1), (28, 1, 0, 1), (29, 0, 7, 3), (32, 0, 0, 2), (34, 0, 0, 1), (35, 0, 0, 1), (36, 1, 0, 1), (37, 0, 0, 1), (38, 1, 0, 1), (39, 0, 7, 3), (42, 0, 0, 2), (44, 0, 0, 1), (45, 0, 0, 1), (46, 1, 0, 1), (47, 0, 0, 1)], [(48, 1, 0, 1), (49, 0, 7, 3), (52, 0, 0, 2), (54, 0, 0, 1), (55, 0, 0, 1), (56, 0, 0, 2), (58, 0, 0, 1), (59, 1, 0, 1), (60, 0, 7, 3), (63, 0, 0, 2), (65, 0, 0, 1), (66, 0, 0, 1), (67, 1, 0, 1), (68, 0, 7, 3), (71, 0, 0, 1), (72, 0, 0, 1)], [(73, 0, 0, 1), (74, 1, 0, 1), (75, 0, 7, 3), (78, 0, 0, 2), (80, 0, 0, 1), (81, 0, 0, 1), (82, 1, 0, 2), (84, 0, 0, 1), (85, 1, 0, 1), (86, 0, 7, 3), (89, 0, 0, 2), (91, 1, 0, 2), (93, 0, 0, 1), (94, 1, 0, 2), (96, 0, 0, 1), (97, 1, 0, 1)], [(98, 0, 7, 3), (101, 0, 0, 2), (103, 1, 0, 2), (105, 0, 0, 1), (106, 1, 0, 2), (108, 0, 0, 1), (109, 1, 0, 1), (110, 0, 7, 3), (113, 0, 0, 2), (115, 1, 0, 2), (117, 0, 0, 1), (118, 0, 0, 1), (119, 0, 0, 1), (120, 1, 0, 1), (121, 0, 7, 3), (124, 0, 0, 2)], [(126, 1, 0, 2), (128, 0, 0, 1), (129, 1, 0, 1), (130, 0, 7, 3), (133, 0, 0, 1), (134, 0, 0, 1), (135, 0, 0, 1), (136, 1, 0, 1), (137, 0, 7, 3), (140, 0, 0, 1), (141, 0, 0, 1), (142, 0, 0, 1), (143, 0, 0, 1), (144, 0, 0, 1), (145, 0, 0, 1), (146, 1, 0, 1)], [(147, 1, 0, 1), (148, 0, 0, 2), (150, 0, 88, 3), (153, 0, 0, 2), (155, 0, 0, 1), (156, 0, 0, 0)]]
def ph_163 : List (List (Nat × Nat × Nat × Nat)) := [[(0, 1, 0, 1), (1, 0, 92, 3), (4, 0, 0, 3), (7, 1, 0, 1), (8, 0, 0, 1), (9, 0, 0, 1), (10, 1, 0, 2), (12, 1, 0, 2), (14, 0, 96, 3), (17, 0, 0, 3), (20, 1, 0, 2), (22, 0, 0, 1), (23, 0, 0, 0)]]
def ph_164 : List (List (Nat × Nat × Nat × Nat)) := [[(0, 1, 0, 1), (1, 0, 0, 1), (2, 1, 0, 1), (3, 1, 0, 1), (4, 1, 0, 2), (6, 0, 96, 3), (9, 0, 0, 2), (11, 1, 0, 2), (13, 1, 0, 2), (15, 0, 0, 2), (17, 0, 0, 1), (18, 0, 0, 1), (19, 0, 0, 2), (21, 1, 0, 1), (22, 0, 7, 3), (25, 0, 0, 2)], [(27, 0, 0, 1), (28, 0, 0, 1), (29, 0, 0, 2), (31, 0, 0, 1), (32, 1, 0, 1), (33, 0, 7, 3), (36, 0, 0, 2), (38, 1, 0, 2), (40, 0, 0, 1), (41, 1, 0, 1), (42, 0, 0, 1), (43, 0, 0, 3), (46, 1, 0, 1), (47, 0, 0, 3), (50, 0, 0, 1), (51, 0, 0, 1)], [(52, 1, 0, 1), (53, 0, 7, 3), (56, 0, 0, 2), (58, 1, 0, 2), (60, 0, 0, 1), (61, 0, 0, 2), (63, 0, 0, 3), (66, 0, 0, 1), (67, 0, 0, 3), (70, 0, 0, 1), (71, 0, 0, 1), (72, 0, 0, 2), (74, 0, 0, 1), (75, 0, 0, 0)]]
def ph_165 : List (List (Nat × Nat × Nat × Nat)) := [[(0, 1, 0, 1), (1, 1, 0, 1), (2, 0, 100, 3), (5, 0, 0, 3), (8, 1, 0, 1), (9, 0, 0, 1), (10, 0, 0, 3), (13, 1, 0, 1), (14, 0, 0, 1), (15, 0, 0, 3), (18, 1, 0, 1), (19, 0, 0, 1), (20, 0, 0, 3), (23, 1, 0, 1), (24, 0, 0, 1), (25, 0, 0, 3)], [(28, 1, 0, 1), (29, 0, 0, 1), (30, 0, 0, 1), (31, 1, 103, 3), (34, 1, 68, 3), (37, 0, 0, 3), (40, 0, 0, 2), (42, 0, 0, 1), (43, 0, 0, 1), (44, 1, 0, 1), (45, 0, 7, 3), (48, 0, 0, 1), (49, 0, 0, 1), (50, 0, 0, 1), (51, 1, 68, 3), (54, 0, 0, 3)], [(57, 0, 0, 1), (58, 0, 0, 1), (59, 1, 0, 1), (60, 1, 0, 1), (61, 0, 78, 3), (64, 0, 0, 3), (67, 1, 0, 2), (69, 0, 0, 1), (70, 1, 0, 1), (71, 0, 92, 3), (74, 0, 0, 3), (77, 1, 0, 1), (78, 1, 0, 1), (79, 1, 0, 1), (80, 1, 0, 1), (81, 0, 0, 2)], [(83, 0, 0, 2), (85, 0, 105, 3), (88, 0, 0, 3), (91, 1, 0, 2), (93, 0, 0, 1), (94, 0, 0, 0)]]
def ph_166 : List (List (Nat × Nat × Nat × Nat)) := [[(0, 1, 0, 1), (1, 1, 0, 1), (2, 0, 100, 3), (5, 0, 0, 3), (8, 0, 0, 1), (9, 0, 0, 1), (10, 1, 0, 1), (11, 1, 0, 1), (12, 0, 0, 1), (13, 0, 72, 3), (16, 0, 0, 1), (17, 0, 0, 3), (20, 1, 0, 2), (22, 0, 0, 1), (23, 1, 0, 1), (24, 0, 7, 3)], [(27, 0, 0, 1), (28, 0, 0, 1), (29, 1, 0, 2), (31, 0, 0, 3), (34, 1, 0, 2), (36, 0, 0, 1), (37, 1, 0, 1), (38, 0, 7, 3), (41, 1, 0, 2), (43, 1, 0, 2), (45, 1, 0, 1), (46, 0, 0, 1), (47, 0, 0, 1), (48, 0, 0, 1), (49, 0, 0, 1), (50, 0, 0, 1)], [(51, 0, 0, 1), (52, 1, 0, 1), (53, 0, 0, 1), (54, 1, 0, 1), (55, 0, 88, 3), (58, 0, 0, 1), (59, 0, 0, 1), (60, 0, 0, 0)]]
def ph_167 : List (List (Nat × Nat × Nat × Nat)) := [[(0, 1, 0, 1), (1, 0, 0, 1), (2, 0, 0, 1), (3, 1, 0, 1), (4, 1, 0, 1), (5, 0, 96, 3), (8, 1, 0, 1), (9, 1, 0, 1), (10, 0, 7, 3), (13, 1, 0, 2), (15, 1, 0, 2), (17, 1, 0, 1), (18, 0, 0, 1), (19, 0, 0, 1), (20, 0, 0, 1), (21, 0, 0, 1)], [(22, 1, 0, 2), (24, 0, 0, 1), (25, 1, 0, 1), (26, 0, 7, 3), (29, 1, 0, 2), (31, 1, 0, 2), (33, 1, 0, 1), (34, 0, 0, 1), (35, 0, 0, 1), (36, 0, 0, 1), (37, 0, 0, 1), (38, 1, 0, 2), (40, 0, 0, 1), (41, 1, 0, 1), (42, 0, 7, 3), (45, 1, 0, 2)], [(47, 1, 0, 2), (49, 1, 0, 1), (50, 0, 0, 1), (51, 0, 0, 1), (52, 1, 0, 2), (54, 0, 0, 1), (55, 1, 0, 1), (56, 0, 0, 1), (57, 1, 0, 1), (58, 0, 7, 3), (61, 1, 0, 2), (63, 1, 0, 2), (65, 1, 0, 1), (66, 0, 0, 1), (67, 0, 0, 1), (68, 1, 0, 2)], [(70, 0, 0, 1), (71, 1, 0, 1), (72, 0, 0, 1), (73, 1, 0, 1), (74, 0, 0, 1), (75, 0, 0, 0)]]
def ph_168 : List (List (Nat × Nat × Nat × Nat)) := [[(0, 1, 0, 1), (1, 1, 0, 1), (2, 0, 100, 3), (5, 0, 0, 3), (8, 1, 0, 1), (9, 1, 0, 1), (10, 0, 100, 3), (13, 0, 0, 3), (16, 1, 0, 1), (17, 1, 0, 1), (18, 0, 0, 3), (21, 0, 0, 1), (22, 0, 0, 1), (23, 1, 0, 1), (24, 1, 0, 1), (25, 0, 78, 3)], [(28, 0, 0, 3), (31, 1, 0, 1), (32, 1, 0, 1), (33, 0, 78, 3), (36, 0, 0, 3), (39, 1, 0, 2), (41, 0, 0, 1), (42, 1, 0, 1), (43, 0, 92, 3), (46, 0, 0, 3), (49, 1, 0, 1), (50, 1, 0, 1), (51, 1, 0, 1), (52, 0, 109, 3), (55, 0, 0, 3), (58, 1, 0, 2)], [(60, 0, 0, 1), (61, 0, 0, 0)]]
def ph_169 : List (List (Nat × Nat × Nat × Nat)) := [[(0, 1, 0, 1), (1, 0, 7, 3), (4, 1, 0, 2), (6, 1, 0, 2), (8, 1, 0, 1), (9, 0, 0, 1), (10, 0, 0, 1), (11, 0, 0, 1), (12, 0, 0, 1), (13, 1, 0, 2), (15, 0, 0, 1), (16, 1, 0, 1), (17, 0, 0, 1), (18, 1, 0, 1), (19, 0, 88, 3), (22, 0, 0, 1)], [(23, 0, 0, 0)]]
def ph_170 : List (List (Nat × Nat × Nat × Nat)) := [[(0, 1, 0, 1), (1, 1, 0, 1), (2, 0, 100, 3), (5, 0, 0, 3), (8, 0, 0, 1), (9, 0, 0, 1), (10, 1, 0, 1), (11, 1, 0, 1), (12, 0, 0, 1), (13, 0, 72, 3), (16, 1, 0, 2), (18, 0, 0, 3), (21, 1, 0, 2), (23, 0, 0, 1), (24, 1, 0, 1), (25, 0, 7, 3)], [(28, 0, 0, 1), (29, 0, 0, 1), (30, 1, 0, 2), (32, 0, 0, 3), (35, 1, 0, 2), (37, 0, 0, 1), (38, 1, 0, 1), (39, 1, 0, 1), (40, 0, 112, 3), (43, 1, 0, 1), (44, 0, 116, 3), (47, 0, 0, 1), (48, 0, 0, 0)]]
def ph_171 : List (List (Nat × Nat × Nat × Nat)) := [[(0, 1, 0, 1), (1, 1, 0, 1), (2, 1, 0, 1), (3, 1, 0, 1), (4, 0, 0, 1), (5, 0, 72, 3), (8, 0, 0, 3), (11, 1, 0, 1), (12, 1, 0, 1), (13, 0, 0, 1), (14, 0, 72, 3), (17, 1, 0, 1), (18, 0, 0, 3), (21, 1, 0, 1), (22, 0, 0, 1), (23, 0, 0, 0)]]
def ph_172 : List (List (Nat × Nat × Nat × Nat)) := [[(0, 1, 0, 1), (1, 1, 0, 1), (2, 0, 120, 3), (5, 0, 0, 3), (8, 1, 0, 1), (9, 1, 0, 1), (10, 1, 0, 2), (12, 0, 72, 3), (15, 0, 0, 3), (18, 1, 0, 1), (19, 0, 0, 1), (20, 1, 0, 1), (21, 1, 0, 1), (22, 1, 0, 2), (24, 0, 72, 3), (27, 0, 0, 1)], [(28, 0, 123, 3), (31, 0, 0, 1), (32, 0, 0, 3), (35, 0, 0, 1), (36, 0, 0, 3), (39, 0, 0, 1), (40, 0, 0, 1), (41, 0, 0, 0)]]
def ph_173 : List (List (Nat × Nat × Nat × Nat)) := [[(0, 1, 0, 1), (1, 1, 0, 1), (2, 0, 100, 3), (5, 0, 0, 3), (8, 1, 0, 1), (9, 0, 0, 1), (10, 0, 0, 1), (11, 1, 127, 3), (14, 1, 68, 3), (17, 0, 0, 3), (20, 0, 0, 1), (21, 0, 0, 1), (22, 1, 0, 1), (23, 0, 0, 45), (68, 1, 0, 1), (69, 1, 0, 1)], [(70, 0, 0, 1), (71, 0, 72, 3), (74, 0, 0, 1), (75, 1, 0, 1), (76, 1, 0, 1), (77, 0, 0, 1), (78, 0, 72, 3), (81, 0, 0, 1), (82, 1, 0, 1), (83, 1, 0, 1), (84, 0, 0, 1), (85, 0, 72, 3), (88, 0, 0, 1), (89, 1, 0, 1), (90, 1, 0, 1), (91, 0, 0, 1)], [(92, 0, 72, 3), (95, 0, 0, 1), (96, 1, 0, 1), (97, 1, 0, 1), (98, 0, 0, 1), (99, 0, 72, 3), (102, 0, 0, 1), (103, 1, 0, 1), (104, 1, 0, 1), (105, 1, 0, 2), (107, 0, 72, 3), (110, 0, 0, 1), (111, 1, 0, 1), (112, 1, 0, 1), (113, 1, 0, 2), (115, 0, 72, 3)], [(118, 0, 0, 1), (119, 1, 0, 1), (120, 1, 0, 1), (121, 0, 129, 3), (124, 0, 0, 3), (127, 0, 0, 1), (128, 0, 0, 3), (131, 0, 0, 1), (132, 0, 0, 1), (133, 1, 0, 1), (134, 1, 0, 1), (135, 0, 132, 3), (138, 0, 0, 1), (139, 0, 0, 0)]]
def ph_174 : List (List (Nat × Nat × Nat × Nat)) := [[(0, 0, 0, 1), (1, 1, 0, 1), (2, 0, 0, 1), (3, 1, 0, 1), (4, 1, 0, 1), (5, 1, 0, 1), (6, 1, 0, 1), (7, 0, 0, 3), (10, 1, 0, 1), (11, 1, 0, 1), (12, 0, 0, 1), (13, 0, 0, 1), (14, 0, 0, 1), (15, 0, 0, 1), (16, 0, 0, 3), (19, 1, 0, 1)], [(20, 1, 0, 1), (21, 1, 0, 1), (22, 0, 0, 1), (23, 0, 72, 3), (26, 0, 0, 3), (29, 0, 0, 1), (30, 1, 0, 1), (31, 1, 0, 1), (32, 0, 0, 1), (33, 0, 72, 3), (36, 0, 0, 1), (37, 0, 0, 3), (40, 0, 0, 1), (41, 0, 0, 1), (42, 1, 0, 1), (43, 1, 0, 1)], [(44, 1, 0, 1), (45, 1, 0, 1), (46, 0, 0, 1), (47, 0, 72, 3), (50, 0, 0, 3), (53, 0, 0, 1), (54, 1, 0, 1), (55, 1, 0, 1), (56, 0, 0, 1), (57, 0, 72, 3), (60, 0, 0, 1), (61, 0, 0, 3), (64, 0, 0, 1), (65, 0, 0, 1), (66, 1, 0, 1), (67, 0, 0, 3)], [(70, 0, 0, 3), (73, 1, 0, 1), (74, 0, 0, 1), (75, 0, 0, 0)]]
def ph_175 : List (List (Nat × Nat × Nat × Nat)) := [[(0, 1, 0, 1), (1, 1, 0, 1), (2, 0, 100, 3), (5, 0, 0, 3), (8, 0, 0, 1), (9, 0, 0, 1), (10, 0, 0, 1), (11, 1, 0, 1), (12, 0, 0, 1), (13, 1, 0, 1), (14, 1, 0, 1), (15, 1, 0, 1), (16, 0, 7, 3), (19, 0, 0, 1), (20, 0, 0, 1), (21, 0, 0, 3)], [(24, 1, 0, 1), (25, 1, 0, 1), (26, 1, 0, 1), (27, 0, 136, 3), (30, 1, 0, 1), (31, 0, 0, 1), (32, 0, 0, 1), (33, 0, 0, 1), (34, 0, 0, 1), (35, 0, 0, 3), (38, 0, 0, 1), (39, 1, 0, 1), (40, 0, 0, 1), (41, 0, 0, 3), (44, 0, 0, 1), (45, 0, 0, 1)], [(46, 1, 0, 1), (47, 0, 0, 3), (50, 0, 0, 3), (53, 1, 0, 1), (54, 0, 0, 1), (55, 0, 0, 0)]]
def ph_176 : List (List (Nat × Nat × Nat × Nat)) := [[(0, 1, 0, 1), (1, 1, 0, 1), (2, 0, 100, 3), (5, 0, 0, 3), (8, 1, 0, 1), (9, 1, 0, 1), (10, 0, 100, 3), (13, 0, 0, 3), (16, 0, 0, 1), (17, 0, 0, 1), (18, 1, 0, 1), (19, 1, 0, 1), (20, 0, 136, 3), (23, 1, 0, 1), (24, 1, 0, 1), (25, 0, 136, 3)], [(28, 0, 0, 1), (29, 1, 0, 1), (30, 1, 0, 2), (32, 0, 0, 2), (34, 0, 0, 1), (35, 0, 0, 2), (37, 0, 0, 2), (39, 1, 0, 1), (40, 0, 7, 3), (43, 0, 0, 1), (44, 0, 0, 1), (45, 0, 0, 3), (48, 1, 0, 1), (49, 0, 0, 2), (51, 0, 0, 1), (52, 0, 0, 1)], [(53, 0, 0, 1), (54, 0, 0, 1), (55, 0, 0, 3), (58, 0, 0, 2), (60, 0, 0, 3), (63, 0, 0, 2), (65, 0, 0, 2), (67, 0, 0, 3), (70, 0, 0, 3), (73, 0, 0, 2), (75, 0, 0, 1), (76, 0, 0, 0)]]
def ph_177 : List (List (Nat × Nat × Nat × Nat)) := [[(0, 1, 0, 1), (1, 0, 0, 1), (2, 0, 0, 1), (3, 1, 127, 3), (6, 1, 68, 3), (9, 0, 0, 3), (12, 0, 0, 1), (13, 0, 0, 1), (14, 1, 0, 1), (15, 0, 139, 3), (18, 1, 0, 1), (19, 0, 0, 1), (20, 2, 0, 3), (23, 0, 0, 3), (26, 1, 0, 2), (28, 0, 0, 1)], [(29, 0, 0, 1), (30, 0, 0, 2), (32, 0, 0, 2), (34, 1, 0, 1), (35, 0, 0, 3), (38, 1, 0, 1), (39, 0, 19, 3), (42, 1, 0, 1), (43, 0, 139, 3), (46, 1, 0, 1), (47, 1, 0, 2), (49, 0, 0, 2), (51, 0, 0, 1), (52, 0, 0, 1), (53, 1, 143, 3), (56, 0, 0, 1)], [(57, 0, 0, 1), (58, 0, 0, 1), (59, 1, 0, 1), (60, 0, 0, 1), (61, 0, 139, 3), (64, 0, 0, 1), (65, 0, 0, 1), (66, 0, 139, 3), (69, 0, 0, 3), (72, 0, 0, 3), (75, 1, 0, 1), (76, 0, 139, 3), (79, 0, 0, 1), (80, 0, 0, 0)]]
def ph_178 : List (List (Nat × Nat × Nat × Nat)) := [[(0, 1, 0, 1), (1, 1, 0, 1), (2, 0, 139, 3), (5, 0, 0, 3), (8, 1, 0, 1), (9, 0, 19, 3), (12, 1, 0, 1), (13, 0, 0, 1), (14, 0, 0, 3), (17, 0, 0, 1), (18, 0, 0, 1), (19, 0, 0, 0)]]
def ph_179 : List (List (Nat × Nat × Nat × Nat)) := [[(0, 1, 0, 1), (1, 0, 0, 1), (2, 1, 145, 3), (5, 1, 147, 3), (8, 1, 68, 3), (11, 0, 0, 1), (12, 0, 0, 0)]]
def ph_180 : List (List (Nat × Nat × Nat × Nat)) := [[(0, 1, 0, 1), (1, 0, 0, 1), (2, 1, 149, 3), (5, 1, 151, 3), (8, 1, 68, 3), (11, 0, 0, 1), (12, 0, 0, 0)]]
def ph_181 : List (List (Nat × Nat × Nat × Nat)) := [[(0, 1, 0, 1), (1, 1, 0, 1), (2, 0, 153, 3), (5, 0, 156, 3), (8, 1, 0, 1), (9, 1, 0, 1), (10, 0, 156, 3), (13, 0, 159, 3), (16, 1, 0, 2), (18, 0, 0, 3), (21, 1, 0, 1), (22, 0, 0, 1), (23, 0, 156, 3), (26, 0, 0, 1), (27, 0, 0, 1), (28, 0, 156, 3)], [(31, 0, 0, 3), (34, 1, 0, 1), (35, 1, 0, 1), (36, 0, 156, 3), (39, 0, 159, 3), (42, 1, 162, 3), (45, 1, 0, 1), (46, 1, 0, 1), (47, 1, 0, 1), (48, 0, 156, 3), (51, 0, 159, 3), (54, 1, 165, 3), (57, 1, 0, 1), (58, 1, 0, 1), (59, 1, 0, 1), (60, 0, 156, 3)], [(63, 1, 0, 1), (64, 0, 139, 3), (67, 0, 0, 3), (70, 1, 0, 1), (71, 0, 156, 3), (74, 0, 0, 1), (75, 0, 0, 1), (76, 0, 0, 3), (79, 1, 0, 1), (80, 0, 156, 3), (83, 0, 153, 3), (86, 1, 0, 1), (87, 0, 0, 3), (90, 1, 0, 1), (91, 1, 0, 1), (92, 0, 153, 3)], [(95, 0, 159, 3), (98, 1, 162, 3), (101, 0, 0, 3), (104, 1, 0, 1), (105, 0, 0, 3), (108, 1, 0, 1), (109, 1, 0, 1), (110, 0, 153, 3), (113, 0, 159, 3), (116, 1, 165, 3), (119, 0, 0, 3), (122, 1, 0, 1), (123, 0, 0, 1), (124, 0, 153, 3), (127, 0, 0, 1), (128, 0, 0, 1)], [(129, 0, 153, 3), (132, 0, 0, 3), (135, 0, 0, 1), (136, 0, 0, 0)]]
def ph_182 : List (List (Nat × Nat × Nat × Nat)) := [[(0, 1, 0, 1), (1, 1, 0, 1), (2, 0, 168, 3), (5, 0, 0, 3), (8, 1, 0, 1), (9, 0, 0, 3), (12, 0, 0, 1), (13, 0, 0, 3), (16, 0, 0, 1), (17, 0, 168, 3), (20, 1, 0, 1), (21, 0, 168, 3), (24, 0, 0, 3), (27, 1, 0, 1), (28, 0, 172, 3), (31, 0, 0, 1)], [(32, 0, 0, 0)]]
def ph_183 : List (List (Nat × Nat × Nat × Nat)) := [[(0, 1, 0, 1), (1, 0, 168, 3), (4, 0, 0, 3), (7, 1, 0, 1), (8, 0, 22, 3), (11, 1, 0, 1), (12, 0, 175, 3), (15, 1, 0, 1), (16, 0, 0, 1), (17, 1, 0, 1), (18, 0, 0, 1), (19, 0, 175, 3), (22, 0, 0, 1), (23, 0, 0, 1), (24, 0, 175, 3), (27, 0, 0, 1)], [(28, 0, 0, 0)]]
def ph_184 : List (List (Nat × Nat × Nat × Nat)) := [[(0, 1, 0, 1), (1, 0, 0, 3), (4, 1, 0, 1), (5, 1, 0, 1), (6, 0, 156, 3), (9, 1, 0, 1), (10, 0, 0, 1), (11, 0, 159, 3), (14, 1, 0, 1), (15, 0, 0, 3), (18, 0, 0, 1), (19, 0, 0, 3), (22, 0, 0, 1), (23, 0, 0, 1), (24, 0, 0, 0)]]
def ph_185 : List (List (Nat × Nat × Nat × Nat)) := [[(0, 1, 0, 1), (1, 0, 0, 3), (4, 0, 0, 1), (5, 0, 0, 3), (8, 0, 0, 2), (10, 0, 0, 3), (13, 0, 0, 1), (14, 0, 0, 3), (17, 0, 0, 2), (19, 0, 0, 3), (22, 0, 0, 1), (23, 0, 0, 3), (26, 0, 0, 2), (28, 0, 0, 3), (31, 0, 0, 1), (32, 0, 0, 3)], [(35, 1, 0, 2), (37, 0, 0, 2), (39, 1, 0, 1), (40, 0, 153, 3), (43, 1, 0, 1), (44, 0, 156, 3), (47, 0, 0, 1), (48, 0, 0, 2), (50, 0, 0, 3), (53, 1, 0, 1), (54, 0, 0, 1), (55, 1, 0, 1), (56, 0, 178, 3), (59, 0, 0, 3), (62, 1, 0, 1), (63, 0, 0, 1)], [(64, 1, 0, 1), (65, 0, 178, 3), (68, 0, 0, 3), (71, 1, 0, 1), (72, 0, 0, 1), (73, 1, 0, 1), (74, 0, 178, 3), (77, 0, 0, 3), (80, 1, 0, 1), (81, 0, 0, 1), (82, 0, 0, 2), (84, 0, 178, 3), (87, 0, 0, 3), (90, 1, 0, 1), (91, 0, 0, 1), (92, 0, 0, 2)], [(94, 0, 178, 3), (97, 0, 0, 3), (100, 1, 0, 1), (101, 0, 0, 1), (102, 0, 0, 2), (104, 0, 178, 3), (107, 0, 0, 3), (110, 0, 0, 1), (111, 0, 0, 3), (114, 0, 0, 1), (115, 0, 0, 1), (116, 0, 0, 0)]]
def ph_186 : List (List (Nat × Nat × Nat × Nat)) := [[(0, 1, 0, 1), (1, 1, 0, 2), (3, 1, 0, 2), (5, 1, 0, 2), (7, 1, 0, 2), (9, 0, 0, 1), (10, 0, 0, 1), (11, 0, 182, 3), (14, 0, 0, 3), (17, 0, 0, 1), (18, 0, 0, 3), (21, 1, 0, 1), (22, 1, 0, 2), (24, 1, 0, 2), (26, 1, 0, 2), (28, 1, 0, 2)], [(30, 0, 0, 1), (31, 0, 0, 1), (32, 0, 182, 3), (35, 0, 0, 3), (38, 0, 0, 1), (39, 0, 0, 3), (42, 1, 0, 1), (43, 1, 0, 2), (45, 1, 0, 2), (47, 1, 0, 2), (49, 1, 0, 2), (51, 1, 0, 2), (53, 0, 0, 1), (54, 0, 182, 3), (57, 0, 0, 3), (60, 0, 0, 1)], [(61, 0, 0, 3), (64, 1, 0, 1), (65, 1, 0, 2), (67, 1, 0, 2), (69, 1, 0, 2), (71, 1, 0, 2), (73, 0, 0, 1), (74, 0, 0, 1), (75, 0, 182, 3), (78, 0, 0, 3), (81, 0, 0, 1), (82, 0, 0, 3), (85, 1, 0, 1), (86, 1, 0, 2), (88, 1, 0, 2), (90, 1, 0, 2)], [(92, 0, 0, 1), (93, 0, 0, 1), (94, 0, 0, 1), (95, 0, 182, 3), (98, 0, 0, 3), (101, 0, 0, 1), (102, 0, 0, 3), (105, 1, 0, 1), (106, 1, 0, 2), (108, 1, 0, 2), (110, 1, 0, 2), (112, 1, 0, 2), (114, 1, 0, 2), (116, 0, 0, 1), (117, 0, 182, 3), (120, 0, 0, 3)], [(123, 0, 0, 1), (124, 0, 0, 3), (127, 1, 0, 1), (128, 1, 0, 2), (130, 1, 0, 2), (132, 1, 0, 2), (134, 1, 0, 2), (136, 1, 0, 2), (138, 0, 0, 1), (139, 0, 182, 3), (142, 0, 0, 3), (145, 1, 0, 2), (147, 0, 0, 3), (150, 0, 0, 1), (151, 0, 0, 1), (152, 0, 0, 0)]]
def ph_187 : List (List (Nat × Nat × Nat × Nat)) := [[(0, 1, 0, 1), (1, 0, 0, 39), (40, 1, 0, 1), (41, 1, 0, 2), (43, 1, 0, 2), (45, 1, 0, 2), (47, 1, 0, 2), (49, 1, 0, 2), (51, 0, 0, 1), (52, 0, 182, 3), (55, 0, 0, 3), (58, 0, 0, 1), (59, 0, 0, 3), (62, 1, 0, 1), (63, 1, 0, 2), (65, 1, 0, 2)], [(67, 1, 0, 2), (69, 1, 0, 2), (71, 0, 0, 1), (72, 0, 0, 1), (73, 0, 182, 3), (76, 0, 0, 3), (79, 0, 0, 1), (80, 0, 0, 3), (83, 1, 0, 1), (84, 1, 0, 2), (86, 1, 0, 2), (88, 1, 0, 2), (90, 1, 0, 2), (92, 1, 0, 2), (94, 1, 0, 2), (96, 0, 182, 3)], [(99, 0, 0, 3), (102, 0, 0, 1), (103, 0, 0, 3), (106, 1, 0, 1), (107, 1, 0, 2), (109, 1, 0, 2), (111, 1, 0, 2), (113, 0, 0, 1), (114, 0, 0, 1), (115, 0, 0, 1), (116, 0, 182, 3), (119, 0, 0, 3), (122, 0, 0, 1), (123, 0, 0, 3), (126, 0, 0, 1), (127, 0, 0, 1)], [(128, 1, 0, 1), (129, 1, 0, 2), (131, 1, 0, 2), (133, 1, 0, 2), (135, 1, 0, 2), (137, 0, 0, 1), (138, 0, 0, 1), (139, 0, 182, 3), (142, 0, 0, 3), (145, 0, 0, 1), (146, 0, 0, 3), (149, 1, 0, 1), (150, 1, 0, 2), (152, 1, 0, 2), (154, 1, 0, 2), (156, 1, 0, 2)], [(158, 1, 0, 2), (160, 1, 0, 2), (162, 0, 182, 3), (165, 0, 0, 3), (168, 0, 0, 1), (169, 0, 0, 3), (172, 1, 0, 1), (173, 1, 0, 2), (175, 1, 0, 2), (177, 1, 0, 2), (179, 1, 0, 2), (181, 0, 0, 1), (182, 0, 0, 1), (183, 0, 182, 3), (186, 0, 0, 3), (189, 0, 0, 1)], [(190, 0, 0, 3), (193, 0, 0, 1), (194, 0, 0, 1), (195, 1, 0, 1), (196, 1, 0, 2), (198, 1, 0, 2), (200, 1, 0, 2), (202, 1, 0, 2), (204, 0, 0, 1), (205, 0, 0, 1), (206, 0, 182, 3), (209, 0, 0, 3), (212, 0, 0, 1), (213, 0, 0, 3), (216, 1, 0, 1), (217, 1, 0, 2)], [(219, 1, 0, 2), (221, 1, 0, 2), (223, 1, 0, 2), (225, 0, 0, 1), (226, 0, 0, 1), (227, 0, 182, 3), (230, 0, 0, 3), (233, 0, 0, 1), (234, 0, 0, 3), (237, 1, 0, 1), (238, 1, 0, 2), (240, 1, 0, 2), (242, 1, 0, 2), (244, 1, 0, 2), (246, 1, 0, 2), (248, 0, 0, 1)], [(249, 0, 182, 3), (252, 0, 0, 3), (255, 0, 0, 1), (256, 0, 0, 3), (259, 0, 0, 1), (260, 0, 0, 1), (261, 1, 0, 1), (262, 1, 0, 2), (264, 1, 0, 2), (266, 1, 0, 2), (268, 1, 0, 2), (270, 1, 0, 2), (272, 0, 0, 1), (273, 0, 182, 3), (276, 0, 0, 3), (279, 0, 0, 1)], [(280, 0, 0, 3), (283, 1, 0, 1), (284, 1, 0, 2), (286, 1, 0, 2), (288, 1, 0, 2), (290, 1, 0, 2), (292, 0, 0, 1), (293, 0, 0, 1), (294, 0, 182, 3), (297, 0, 0, 3), (300, 0, 0, 1), (301, 0, 0, 3), (304, 1, 0, 1), (305, 1, 0, 2), (307, 1, 0, 2), (309, 1, 0, 2)], [(311, 1, 0, 2), (313, 0, 0, 1), (314, 0, 0, 1), (315, 0, 182, 3), (318, 0, 0, 3), (321, 0, 0, 1), (322, 0, 0, 3), (325, 1, 0, 1), (326, 1, 0, 2), (328, 1, 0, 2), (330, 1, 0, 2), (332, 1, 0, 2), (334, 0, 0, 1), (335, 0, 0, 1), (336, 0, 182, 3), (339, 0, 0, 3)], [(342, 0, 0, 1), (343, 0, 0, 3), (346, 0, 0, 1), (347, 0, 0, 1), (348, 1, 0, 1), (349, 1, 0, 2), (351, 1, 0, 2), (353, 1, 0, 2), (355, 1, 0, 2), (357, 0, 0, 1), (358, 0, 0, 1), (359, 0, 182, 3), (362, 0, 0, 3), (365, 0, 0, 1), (366, 0, 0, 3), (369, 1, 0, 1)], [(370, 1, 0, 2), (372, 1, 0, 2), (374, 1, 0, 2), (376, 1, 0, 2), (378, 1, 0, 2), (380, 1, 0, 2), (382, 0, 182, 3), (385, 0, 0, 3), (388, 0, 0, 1), (389, 0, 0, 3), (392, 0, 0, 1), (393, 0, 0, 1), (394, 1, 0, 1), (395, 1, 0, 2), (397, 1, 0, 2), (399, 1, 0, 2)], [(401, 1, 0, 2), (403, 1, 0, 2), (405, 0, 0, 1), (406, 0, 182, 3), (409, 0, 0, 3), (412, 0, 0, 1), (413, 0, 0, 3), (416, 1, 0, 1), (417, 1, 0, 2), (419, 1, 0, 2), (421, 1, 0, 2), (423, 1, 0, 2), (425, 1, 0, 2), (427, 0, 0, 1), (428, 0, 182, 3), (431, 0, 0, 3)], [(434, 0, 0, 1), (435, 0, 0, 3), (438, 0, 0, 1), (439, 0, 0, 1), (440, 0, 0, 0)]]
def ph_188 : List (List (Nat × Nat × Nat × Nat)) := [[(0, 1, 0, 1), (1, 1, 0, 2), (3, 1, 0, 2), (5, 1, 0, 2), (7, 0, 0, 1), (8, 0, 0, 1), (9, 0, 0, 1), (10, 0, 182, 3), (13, 0, 0, 3), (16, 0, 0, 1), (17, 0, 0, 3), (20, 1, 0, 1), (21, 1, 0, 2), (23, 1, 0, 2), (25, 1, 0, 2), (27, 1, 0, 2)], [(29, 0, 0, 1), (30, 0, 0, 1), (31, 0, 182, 3), (34, 0, 0, 3), (37, 0, 0, 1), (38, 0, 0, 3), (41, 1, 0, 1), (42, 1, 0, 2), (44, 1, 0, 2), (46, 1, 0, 2), (48, 0, 0, 1), (49, 0, 0, 1), (50, 0, 0, 1), (51, 0, 182, 3), (54, 0, 0, 3), (57, 0, 0, 1)], [(58, 0, 0, 3), (61, 1, 0, 1), (62, 1, 0, 2), (64, 1, 0, 2), (66, 1, 0, 2), (68, 1, 0, 2), (70, 0, 0, 1), (71, 0, 0, 1), (72, 0, 182, 3), (75, 0, 0, 3), (78, 0, 0, 1), (79, 0, 0, 3), (82, 1, 0, 1), (83, 1, 0, 2), (85, 1, 0, 2), (87, 1, 0, 2)], [(89, 1, 0, 2), (91, 1, 0, 2), (93, 1, 0, 2), (95, 0, 182, 3), (98, 0, 0, 3), (101, 0, 0, 1), (102, 0, 0, 3), (105, 1, 0, 1), (106, 1, 0, 2), (108, 1, 0, 2), (110, 1, 0, 2), (112, 1, 0, 2), (114, 0, 0, 1), (115, 0, 0, 1), (116, 0, 182, 3), (119, 0, 0, 3)], [(122, 0, 0, 1), (123, 0, 0, 3), (126, 0, 0, 1), (127, 0, 0, 1), (128, 0, 0, 0)]]
def ph_189 : List (List (Nat × Nat × Nat × Nat)) := [[(0, 1, 0, 1), (1, 0, 168, 3), (4, 0, 0, 3), (7, 0, 0, 1), (8, 1, 0, 1), (9, 1, 0, 1), (10, 0, 156, 3), (13, 0, 159, 3), (16, 1, 165, 3), (19, 0, 0, 3), (22, 0, 0, 1), (23, 1, 0, 1), (24, 1, 0, 1), (25, 0, 156, 3), (28, 1, 0, 1), (29, 1, 0, 1)], [(30, 1, 0, 1), (31, 0, 153, 3), (34, 0, 0, 3), (37, 1, 0, 1), (38, 1, 0, 1), (39, 0, 156, 3), (42, 0, 0, 1), (43, 0, 0, 1), (44, 0, 0, 3), (47, 1, 0, 2), (49, 1, 0, 1), (50, 0, 0, 1), (51, 1, 0, 1), (52, 0, 19, 3), (55, 1, 0, 1), (56, 0, 0, 1)], [(57, 0, 0, 1), (58, 1, 0, 2), (60, 0, 0, 1), (61, 1, 0, 1), (62, 0, 0, 3), (65, 0, 0, 3), (68, 1, 0, 1), (69, 1, 0, 1), (70, 0, 186, 3), (73, 1, 0, 1), (74, 1, 0, 1), (75, 0, 153, 3), (78, 1, 0, 1), (79, 0, 156, 3), (82, 0, 0, 1), (83, 0, 0, 1)], [(84, 0, 0, 3), (87, 0, 0, 1), (88, 0, 0, 3), (91, 0, 0, 1), (92, 0, 189, 3), (95, 0, 0, 1), (96, 1, 0, 1), (97, 0, 193, 3), (100, 1, 0, 1), (101, 1, 0, 1), (102, 2, 0, 3), (105, 1, 0, 1), (106, 0, 0, 1), (107, 0, 186, 3), (110, 1, 0, 1), (111, 1, 0, 1)], [(112, 0, 0, 3), (115, 0, 0, 1), (116, 0, 0, 3), (119, 0, 0, 1), (120, 0, 189, 3), (123, 0, 0, 1), (124, 0, 0, 0)]]
def ph_190 : List (List (Nat × Nat × Nat × Nat)) := [[(0, 0, 0, 1), (1, 1, 0, 1), (2, 1, 0, 1), (3, 0, 168, 3), (6, 0, 0, 3), (9, 1, 0, 1), (10, 1, 0, 2), (12, 1, 0, 2), (14, 1, 0, 2), (16, 0, 0, 1), (17, 0, 0, 1), (18, 0, 0, 1), (19, 0, 182, 3), (22, 0, 0, 3), (25, 1, 0, 1), (26, 0, 0, 3)], [(29, 0, 0, 1), (30, 0, 0, 3), (33, 0, 0, 1), (34, 1, 0, 1), (35, 1, 0, 1), (36, 0, 0, 1), (37, 0, 189, 3), (40, 0, 0, 3), (43, 1, 0, 1), (44, 0, 168, 3), (47, 0, 0, 3), (50, 0, 0, 1), (51, 1, 0, 1), (52, 1, 0, 1), (53, 0, 156, 3), (56, 0, 159, 3)], [(59, 1, 0, 2), (61, 0, 0, 3), (64, 1, 0, 1), (65, 1, 0, 1), (66, 0, 196, 3), (69, 0, 0, 1), (70, 0, 0, 3), (73, 0, 0, 1), (74, 0, 0, 3), (77, 0, 0, 1), (78, 0, 189, 3), (81, 1, 0, 1), (82, 0, 0, 1), (83, 0, 196, 3), (86, 0, 0, 1), (87, 0, 0, 1)], [(88, 0, 196, 3), (91, 1, 0, 1), (92, 0, 199, 3), (95, 1, 0, 1), (96, 1, 0, 1), (97, 1, 0, 1), (98, 0, 156, 3), (101, 0, 159, 3), (104, 1, 0, 2), (106, 0, 0, 3), (109, 0, 0, 1), (110, 0, 0, 3), (113, 0, 0, 1), (114, 0, 189, 3), (117, 1, 0, 1), (118, 0, 0, 1)], [(119, 0, 196, 3), (122, 0, 0, 1), (123, 0, 0, 1), (124, 0, 196, 3), (127, 0, 0, 3), (130, 1, 0, 1), (131, 0, 202, 3), (134, 1, 0, 1), (135, 1, 0, 1), (136, 0, 156, 3), (139, 0, 159, 3), (142, 1, 0, 1), (143, 1, 0, 1), (144, 1, 0, 1), (145, 1, 0, 2), (147, 0, 0, 3)], [(150, 1, 0, 1), (151, 1, 0, 2), (153, 0, 0, 3), (156, 1, 0, 1), (157, 1, 0, 2), (159, 0, 0, 3), (162, 0, 0, 1), (163, 0, 0, 3), (166, 0, 0, 1), (167, 0, 189, 3), (170, 1, 0, 1), (171, 0, 202, 3), (174, 1, 0, 1), (175, 2, 0, 3), (178, 1, 0, 1), (179, 0, 0, 1)], [(180, 0, 186, 3), (183, 1, 0, 1), (184, 0, 0, 3), (187, 1, 0, 1), (188, 2, 0, 3), (191, 0, 186, 3), (194, 0, 0, 1), (195, 0, 0, 0)]]
def ph_191 : List (List (Nat × Nat × Nat × Nat)) := [[(0, 1, 0, 1), (1, 0, 205, 3), (4, 1, 0, 1), (5, 0, 168, 3), (8, 0, 0, 3), (11, 1, 0, 1), (12, 1, 0, 2), (14, 1, 0, 2), (16, 1, 0, 2), (18, 0, 0, 1), (19, 0, 0, 1), (20, 0, 0, 1), (21, 0, 182, 3), (24, 0, 0, 3), (27, 1, 0, 1), (28, 0, 0, 1)], [(29, 0, 189, 3), (32, 1, 0, 1), (33, 0, 205, 3), (36, 1, 0, 1), (37, 2, 0, 3), (40, 0, 186, 3), (43, 0, 0, 3), (46, 0, 0, 1), (47, 0, 0, 0)]]
def ph_192 : List (List (Nat × Nat × Nat × Nat)) := [[(0, 1, 0, 1), (1, 0, 208, 3), (4, 1, 0, 1), (5, 0, 168, 3), (8, 0, 0, 3), (11, 1, 0, 1), (12, 1, 0, 2), (14, 1, 0, 2), (16, 0, 0, 1), (17, 0, 0, 1), (18, 0, 0, 1), (19, 0, 0, 1), (20, 0, 182, 3), (23, 0, 0, 3), (26, 1, 0, 1), (27, 0, 0, 1)], [(28, 0, 189, 3), (31, 1, 0, 1), (32, 0, 208, 3), (35, 1, 0, 1), (36, 2, 0, 3), (39, 0, 186, 3), (42, 0, 0, 3), (45, 0, 0, 1), (46, 0, 0, 0)]]
def ph_193 : List (List (Nat × Nat × Nat × Nat)) := [[(0, 1, 0, 1), (1, 0, 211, 3), (4, 1, 0, 1), (5, 1, 0, 1), (6, 0, 175, 3), (9, 1, 0, 1), (10, 1, 0, 1), (11, 1, 0, 1), (12, 0, 0, 3), (15, 1, 0, 1), (16, 0, 214, 3), (19, 1, 0, 2), (21, 0, 0, 3), (24, 0, 0, 1), (25, 0, 0, 3), (28, 0, 0, 1)], [(29, 0, 189, 3), (32, 1, 0, 1), (33, 0, 168, 3), (36, 0, 0, 3), (39, 0, 0, 1), (40, 0, 0, 3), (43, 1, 0, 1), (44, 1, 0, 1), (45, 0, 217, 3), (48, 1, 0, 1), (49, 1, 0, 1), (50, 1, 0, 1), (51, 0, 0, 3), (54, 0, 0, 1), (55, 0, 0, 3), (58, 0, 0, 1)], [(59, 0, 189, 3), (62, 1, 0, 1), (63, 0, 168, 3), (66, 0, 0, 3), (69, 1, 0, 1), (70, 1, 0, 2), (72, 1, 0, 2), (74, 0, 0, 1), (75, 0, 0, 1), (76, 0, 0, 1), (77, 0, 0, 1), (78, 0, 182, 3), (81, 0, 0, 3), (84, 0, 0, 1), (85, 0, 0, 3), (88, 0, 0, 1)], [(89, 0, 0, 2), (91, 0, 0, 2), (93, 0, 0, 3), (96, 1, 0, 1), (97, 0, 0, 1), (98, 0, 189, 3), (101, 1, 0, 1), (102, 0, 199, 3), (105, 1, 0, 1), (106, 1, 0, 1), (107, 1, 0, 1), (108, 0, 156, 3), (111, 0, 159, 3), (114, 1, 0, 2), (116, 0, 0, 3), (119, 0, 0, 1)], [(120, 0, 0, 3), (123, 0, 0, 1), (124, 0, 189, 3), (127, 1, 0, 1), (128, 0, 168, 3), (131, 0, 0, 3), (134, 0, 0, 1), (135, 1, 0, 1), (136, 0, 214, 3), (139, 0, 0, 1), (140, 0, 0, 2), (142, 1, 0, 1), (143, 0, 25, 3), (146, 0, 0, 2), (148, 1, 0, 1), (149, 0, 0, 1)], [(150, 1, 0, 1), (151, 0, 25, 3), (154, 0, 0, 2), (156, 0, 0, 1), (157, 0, 0, 1), (158, 1, 0, 1), (159, 0, 0, 1), (160, 1, 0, 1), (161, 0, 25, 3), (164, 0, 0, 2), (166, 0, 0, 1), (167, 0, 0, 1), (168, 0, 0, 2), (170, 0, 0, 3), (173, 0, 0, 1), (174, 0, 0, 3)], [(177, 0, 0, 1), (178, 0, 0, 1), (179, 1, 0, 1), (180, 0, 25, 3), (183, 0, 0, 2), (185, 0, 0, 1), (186, 0, 0, 1), (187, 1, 0, 1), (188, 0, 0, 1), (189, 1, 0, 1), (190, 0, 25, 3), (193, 0, 0, 2), (195, 0, 0, 1), (196, 0, 0, 1), (197, 1, 0, 1), (198, 0, 175, 3)], [(201, 0, 0, 1), (202, 1, 0, 1), (203, 0, 0, 1), (204, 0, 214, 3), (207, 0, 0, 1), (208, 0, 0, 1), (209, 0, 214, 3), (212, 0, 0, 1), (213, 0, 0, 0)]]
def ph_194 : List (List (Nat × Nat × Nat × Nat)) := [[(0, 1, 0, 1), (1, 0, 0, 1), (2, 0, 153, 3), (5, 1, 0, 1), (6, 0, 0, 1), (7, 0, 196, 3), (10, 1, 0, 1), (11, 0, 0, 1), (12, 0, 175, 3), (15, 1, 0, 1), (16, 0, 0, 1), (17, 0, 214, 3), (20, 1, 0, 1), (21, 0, 0, 1), (22, 0, 168, 3), (25, 1, 0, 1)], [(26, 0, 172, 3), (29, 1, 0, 1), (30, 0, 168, 3), (33, 0, 0, 3), (36, 1, 0, 1), (37, 0, 156, 3), (40, 1, 0, 1), (41, 0, 139, 3), (44, 0, 0, 3), (47, 1, 0, 1), (48, 0, 220, 3), (51, 0, 0, 3), (54, 1, 0, 1), (55, 0, 0, 1), (56, 0, 139, 3), (59, 1, 0, 1)], [(60, 0, 168, 3), (63, 0, 0, 3), (66, 1, 0, 2), (68, 1, 0, 1), (69, 0, 156, 3), (72, 0, 0, 1), (73, 0, 0, 1), (74, 1, 0, 1), (75, 0, 7, 3), (78, 1, 0, 2), (80, 1, 0, 1), (81, 0, 214, 3), (84, 0, 0, 1), (85, 1, 0, 1), (86, 0, 7, 3), (89, 1, 0, 2)], [(91, 1, 0, 1), (92, 0, 175, 3), (95, 0, 0, 1), (96, 0, 0, 1), (97, 1, 0, 1), (98, 1, 0, 1), (99, 1, 0, 2), (101, 0, 0, 3), (104, 1, 0, 1), (105, 0, 7, 3), (108, 2, 0, 3), (111, 1, 0, 1), (112, 0, 0, 1), (113, 1, 0, 1), (114, 0, 0, 1), (115, 1, 0, 1)], [(116, 0, 214, 3), (119, 0, 0, 1), (120, 0, 0, 3), (123, 1, 0, 1), (124, 0, 25, 3), (127, 1, 0, 1), (128, 0, 0, 1), (129, 0, 0, 3), (132, 0, 0, 1), (133, 0, 0, 1), (134, 0, 0, 3), (137, 0, 0, 3), (140, 0, 0, 1), (141, 1, 0, 1), (142, 1, 0, 1), (143, 2, 0, 3)], [(146, 0, 0, 3), (149, 1, 0, 1), (150, 0, 7, 3), (153, 2, 0, 3), (156, 1, 0, 1), (157, 0, 0, 1), (158, 1, 0, 1), (159, 1, 0, 1), (160, 0, 175, 3), (163, 0, 0, 3), (166, 1, 0, 1), (167, 0, 22, 3), (170, 1, 0, 1), (171, 0, 0, 1), (172, 0, 0, 3), (175, 0, 0, 1)], [(176, 0, 0, 1), (177, 0, 0, 3), (180, 0, 0, 3), (183, 1, 0, 1), (184, 0, 214, 3), (187, 0, 0, 1), (188, 0, 0, 0)]]
def ph_195 : List (List (Nat × Nat × Nat × Nat)) := [[(0, 1, 0, 1), (1, 0, 0, 43), (44, 1, 0, 1), (45, 1, 0, 1), (46, 0, 0, 1), (47, 0, 0, 1), (48, 1, 0, 1), (49, 1, 0, 1), (50, 0, 0, 1), (51, 0, 0, 1), (52, 1, 0, 1), (53, 1, 0, 1), (54, 0, 0, 3), (57, 0, 0, 1), (58, 0, 0, 3), (61, 0, 0, 1)], [(62, 0, 0, 1), (63, 1, 0, 1), (64, 1, 0, 1), (65, 0, 0, 3), (68, 0, 0, 1), (69, 0, 0, 3), (72, 0, 0, 1), (73, 0, 0, 1), (74, 1, 0, 1), (75, 1, 0, 1), (76, 0, 0, 3), (79, 0, 0, 1), (80, 0, 0, 3), (83, 0, 0, 1), (84, 0, 0, 1), (85, 0, 0, 0)]]
def ph_196 : List (List (Nat × Nat × Nat × Nat)) := [[(0, 2, 0, 3), (3, 0, 0, 1), (4, 1, 0, 1), (5, 0, 0, 1), (6, 0, 0, 1), (7, 1, 0, 1), (8, 0, 0, 1), (9, 1, 0, 1), (10, 1, 0, 1), (11, 0, 7, 3), (14, 1, 0, 1), (15, 0, 0, 1), (16, 0, 0, 1), (17, 0, 0, 1), (18, 0, 0, 2), (20, 0, 0, 2)], [(22, 1, 0, 1), (23, 0, 7, 3), (26, 1, 0, 1), (27, 0, 0, 1), (28, 0, 0, 1), (29, 0, 0, 1), (30, 0, 0, 3), (33, 1, 0, 1), (34, 0, 7, 3), (37, 2, 0, 3), (40, 0, 0, 2), (42, 0, 0, 1), (43, 0, 0, 1), (44, 0, 0, 2), (46, 0, 0, 2), (48, 2, 0, 3)], [(51, 0, 0, 3), (54, 1, 0, 1), (55, 0, 31, 3), (58, 1, 0, 1), (59, 0, 0, 2), (61, 2, 0, 3), (64, 0, 0, 3), (67, 0, 0, 2), (69, 0, 0, 3), (72, 1, 0, 1), (73, 0, 28, 3), (76, 0, 0, 2), (78, 2, 0, 3), (81, 0, 0, 1), (82, 0, 0, 1), (83, 0, 0, 1)], [(84, 0, 0, 3), (87, 0, 0, 3), (90, 0, 0, 2), (92, 2, 0, 3), (95, 0, 0, 3), (98, 1, 0, 1), (99, 0, 31, 3), (102, 1, 0, 1), (103, 0, 0, 1), (104, 0, 0, 1), (105, 0, 0, 1), (106, 1, 0, 1), (107, 0, 31, 3), (110, 1, 0, 1), (111, 0, 0, 1), (112, 0, 0, 1)], [(113, 0, 0, 1), (114, 0, 0, 1), (115, 0, 0, 1), (116, 0, 0, 3), (119, 0, 0, 3), (122, 1, 0, 1), (123, 0, 31, 3), (126, 1, 0, 1), (127, 0, 0, 1), (128, 0, 0, 1), (129, 0, 0, 2), (131, 1, 0, 1), (132, 0, 31, 3), (135, 1, 0, 1), (136, 0, 0, 1), (137, 0, 0, 1)], [(138, 0, 0, 1), (139, 1, 0, 1), (140, 0, 31, 3), (143, 1, 0, 1), (144, 0, 0, 1), (145, 1, 223, 3), (148, 0, 0, 1), (149, 0, 0, 3), (152, 0, 0, 3), (155, 1, 0, 1), (156, 0, 7, 3), (159, 1, 0, 1), (160, 0, 0, 1), (161, 0, 0, 1), (162, 0, 0, 1), (163, 0, 0, 3)], [(166, 1, 0, 1), (167, 0, 31, 3), (170, 0, 0, 1), (171, 0, 0, 1), (172, 0, 0, 1), (173, 0, 0, 3), (176, 0, 0, 1), (177, 0, 0, 3), (180, 0, 0, 1), (181, 0, 0, 1), (182, 0, 0, 0)]]
def ph_197 : List (List (Nat × Nat × Nat × Nat)) := [[(0, 1, 0, 1), (1, 0, 7, 3), (4, 1, 0, 2), (6, 0, 0, 1), (7, 0, 0, 1), (8, 0, 0, 1), (9, 1, 0, 1), (10, 1, 0, 1), (11, 0, 0, 3), (14, 1, 0, 1), (15, 0, 7, 3), (18, 2, 0, 3), (21, 0, 0, 1), (22, 1, 0, 1), (23, 0, 0, 1), (24, 0, 0, 1)], [(25, 0, 0, 1), (26, 1, 0, 1), (27, 0, 0, 3), (30, 1, 0, 1), (31, 1, 0, 1), (32, 0, 226, 3), (35, 0, 0, 3), (38, 1, 0, 1), (39, 0, 7, 3), (42, 2, 0, 3), (45, 0, 0, 1), (46, 1, 0, 1), (47, 0, 0, 1), (48, 0, 0, 1), (49, 0, 0, 1), (50, 0, 0, 1)], [(51, 0, 0, 1), (52, 0, 0, 1), (53, 0, 0, 3), (56, 0, 0, 3), (59, 0, 0, 1), (60, 0, 0, 1), (61, 0, 0, 0)]]
def ph_198 : List (List (Nat × Nat × Nat × Nat)) := [[(0, 1, 0, 1), (1, 0, 7, 3), (4, 2, 0, 3), (7, 0, 0, 1), (8, 1, 0, 1), (9, 0, 0, 1), (10, 0, 0, 1), (11, 0, 0, 1), (12, 0, 0, 2), (14, 1, 0, 1), (15, 0, 7, 3), (18, 2, 0, 3), (21, 0, 0, 1), (22, 1, 0, 1), (23, 0, 0, 1), (24, 0, 0, 1)], [(25, 0, 0, 1), (26, 0, 0, 1), (27, 0, 0, 1), (28, 0, 0, 2), (30, 0, 0, 2), (32, 0, 0, 1), (33, 0, 0, 3), (36, 0, 0, 2), (38, 0, 0, 1), (39, 0, 0, 3), (42, 0, 0, 1), (43, 0, 0, 3), (46, 0, 0, 1), (47, 0, 0, 2), (49, 1, 0, 1), (50, 0, 28, 3)], [(53, 0, 0, 1), (54, 1, 0, 1), (55, 0, 7, 3), (58, 2, 0, 3), (61, 0, 0, 1), (62, 1, 0, 1), (63, 0, 0, 1), (64, 0, 0, 1), (65, 0, 0, 1), (66, 0, 0, 1), (67, 0, 0, 1), (68, 0, 0, 1), (69, 1, 0, 1), (70, 0, 28, 3), (73, 0, 0, 1), (74, 0, 0, 2)], [(76, 0, 0, 1), (77, 0, 0, 3), (80, 1, 0, 1), (81, 0, 0, 2), (83, 0, 0, 1), (84, 0, 72, 3), (87, 0, 0, 3), (90, 0, 0, 2), (92, 0, 0, 1), (93, 1, 0, 1), (94, 0, 28, 3), (97, 0, 0, 1), (98, 0, 0, 2), (100, 0, 0, 3), (103, 1, 0, 1), (104, 0, 0, 2)], [(106, 0, 0, 1), (107, 0, 72, 3), (110, 1, 0, 1), (111, 0, 0, 2), (113, 0, 0, 1), (114, 0, 72, 3), (117, 0, 0, 1), (118, 0, 0, 3), (121, 0, 0, 1), (122, 0, 0, 1), (123, 1, 0, 1), (124, 0, 28, 3), (127, 0, 0, 1), (128, 0, 0, 2), (130, 0, 0, 1), (131, 0, 0, 3)], [(134, 1, 0, 2), (136, 0, 0, 3), (139, 1, 0, 1), (140, 0, 0, 2), (142, 0, 0, 1), (143, 0, 72, 3), (146, 0, 0, 1), (147, 1, 0, 1), (148, 0, 28, 3), (151, 0, 0, 1), (152, 1, 0, 1), (153, 0, 0, 3), (156, 0, 0, 1), (157, 0, 0, 3), (160, 1, 0, 1), (161, 0, 7, 3)], [(164, 2, 0, 3), (167, 0, 0, 1), (168, 1, 0, 1), (169, 0, 0, 1), (170, 0, 0, 1), (171, 0, 0, 1), (172, 0, 0, 1), (173, 0, 0, 1), (174, 0, 0, 1), (175, 1, 0, 1), (176, 0, 28, 3), (179, 0, 0, 1), (180, 1, 0, 1), (181, 0, 0, 3), (184, 0, 0, 1), (185, 0, 0, 3)], [(188, 1, 0, 1), (189, 0, 0, 1), (190, 1, 0, 1), (191, 1, 0, 1), (192, 0, 229, 3), (195, 0, 0, 1), (196, 0, 0, 0)]]
def ph_199 : List (List (Nat × Nat × Nat × Nat)) := [[(0, 1, 0, 1), (1, 0, 28, 3), (4, 0, 0, 1), (5, 1, 0, 1), (6, 0, 7, 3), (9, 0, 0, 1), (10, 0, 0, 1), (11, 0, 0, 1), (12, 1, 0, 1), (13, 0, 28, 3), (16, 0, 0, 1), (17, 1, 0, 1), (18, 0, 7, 3), (21, 0, 0, 1), (22, 0, 0, 1), (23, 0, 0, 1)], [(24, 1, 0, 1), (25, 0, 28, 3), (28, 0, 0, 1), (29, 0, 0, 1), (30, 0, 0, 1), (31, 1, 0, 1), (32, 0, 28, 3), (35, 0, 0, 1), (36, 1, 0, 1), (37, 1, 0, 1), (38, 0, 0, 1), (39, 0, 72, 3), (42, 0, 0, 1), (43, 1, 0, 1), (44, 0, 28, 3), (47, 0, 0, 1)], [(48, 0, 0, 1), (49, 0, 0, 1), (50, 1, 0, 1), (51, 0, 28, 3), (54, 0, 0, 1), (55, 0, 0, 1), (56, 0, 0, 1), (57, 1, 0, 1), (58, 1, 0, 1), (59, 0, 229, 3), (62, 0, 0, 1), (63, 0, 0, 0)]]
def ph_200 : List (List (Nat × Nat × Nat × Nat)) := [[(0, 1, 0, 1), (1, 0, 0, 1), (2, 0, 0, 1), (3, 1, 232, 3), (6, 1, 68, 3), (9, 0, 0, 3), (12, 1, 0, 1), (13, 1, 0, 1), (14, 0, 100, 3), (17, 0, 0, 3), (20, 1, 0, 1), (21, 1, 0, 1), (22, 1, 0, 1), (23, 0, 234, 3), (26, 0, 0, 3), (29, 0, 0, 1)], [(30, 0, 0, 1), (31, 0, 0, 0)]]
def ph_201 : List (List (Nat × Nat × Nat × Nat)) := [[(0, 2, 0, 3), (3, 0, 0, 1), (4, 1, 0, 1), (5, 0, 7, 3), (8, 0, 0, 1), (9, 0, 0, 1), (10, 0, 0, 1), (11, 0, 0, 1), (12, 0, 0, 2), (14, 1, 0, 1), (15, 0, 7, 3), (18, 0, 0, 2), (20, 1, 0, 1), (21, 0, 0, 1), (22, 1, 0, 1), (23, 0, 7, 3)], [(26, 0, 0, 2), (28, 0, 0, 1), (29, 0, 0, 1), (30, 1, 0, 1), (31, 0, 0, 1), (32, 1, 0, 1), (33, 0, 7, 3), (36, 0, 0, 2), (38, 0, 0, 1), (39, 0, 0, 1), (40, 1, 0, 1), (41, 0, 0, 1), (42, 1, 0, 1), (43, 0, 7, 3), (46, 0, 0, 2), (48, 0, 0, 1)], [(49, 0, 0, 1), (50, 1, 0, 1), (51, 0, 7, 3), (54, 0, 0, 1), (55, 0, 0, 1), (56, 0, 0, 1), (57, 1, 0, 1), (58, 0, 7, 3), (61, 0, 0, 2), (63, 0, 0, 1), (64, 0, 0, 1), (65, 1, 0, 1), (66, 0, 7, 3), (69, 0, 0, 1), (70, 0, 0, 1), (71, 0, 0, 1)], [(72, 1, 0, 1), (73, 0, 7, 3), (76, 0, 0, 1), (77, 0, 0, 1), (78, 0, 0, 1), (79, 0, 0, 1), (80, 0, 0, 1), (81, 0, 0, 1), (82, 1, 0, 1), (83, 0, 7, 3), (86, 0, 0, 1), (87, 0, 0, 1), (88, 0, 0, 1), (89, 0, 0, 1), (90, 0, 0, 1), (91, 0, 0, 0)]]
def ph_202 : List (List (Nat × Nat × Nat × Nat)) := [[(0, 1, 0, 1), (1, 0, 0, 1), (2, 0, 0, 1), (3, 0, 0, 1), (4, 1, 68, 3), (7, 0, 0, 3), (10, 1, 0, 1), (11, 1, 0, 1), (12, 0, 100, 3), (15, 0, 0, 3), (18, 1, 0, 1), (19, 0, 0, 1), (20, 0, 0, 1), (21, 1, 237, 3), (24, 1, 68, 3), (27, 0, 0, 3)], [(30, 0, 0, 1), (31, 0, 0, 1), (32, 1, 0, 1), (33, 1, 0, 1), (34, 0, 78, 3), (37, 0, 0, 3), (40, 1, 0, 2), (42, 0, 0, 1), (43, 1, 0, 1), (44, 0, 7, 3), (47, 0, 0, 1), (48, 0, 0, 1), (49, 1, 0, 2), (51, 0, 0, 3), (54, 1, 0, 2), (56, 0, 0, 3)], [(59, 1, 0, 1), (60, 1, 0, 1), (61, 1, 0, 1), (62, 1, 0, 1), (63, 0, 239, 3), (66, 0, 0, 1), (67, 0, 0, 0)]]
def ph_203 : List (List (Nat × Nat × Nat × Nat)) := [[(0, 1, 0, 1), (1, 0, 0, 1), (2, 0, 0, 1), (3, 1, 0, 1), (4, 0, 7, 3), (7, 0, 0, 1), (8, 0, 0, 1), (9, 0, 0, 1), (10, 0, 0, 1), (11, 0, 0, 1), (12, 1, 68, 3), (15, 0, 0, 1), (16, 0, 0, 0)]]
def ph_204 : List (List (Nat × Nat × Nat × Nat)) := [[(0, 1, 0, 1), (1, 1, 0, 1), (2, 0, 242, 3), (5, 0, 0, 3), (8, 1, 0, 1), (9, 0, 0, 1), (10, 0, 0, 1), (11, 1, 103, 3), (14, 1, 68, 3), (17, 0, 0, 3), (20, 1, 0, 1), (21, 0, 7, 3), (24, 2, 0, 3), (27, 0, 0, 1), (28, 1, 0, 1), (29, 0, 0, 1)], [(30, 0, 0, 1), (31, 1, 0, 1), (32, 0, 0, 1), (33, 0, 0, 1), (34, 0, 0, 3), (37, 0, 0, 1), (38, 0, 0, 1), (39, 0, 0, 0)]]
def ph_205 : List (List (Nat × Nat × Nat × Nat)) := [[(0, 1, 0, 1), (1, 0, 7, 3), (4, 2, 0, 3), (7, 0, 0, 1), (8, 1, 0, 1), (9, 0, 0, 1), (10, 0, 0, 1), (11, 0, 0, 1), (12, 1, 0, 1), (13, 1, 0, 1), (14, 0, 7, 3), (17, 2, 0, 3), (20, 0, 0, 1), (21, 1, 0, 1), (22, 0, 0, 1), (23, 0, 0, 1)], [(24, 0, 0, 1), (25, 0, 0, 1), (26, 0, 0, 1), (27, 1, 0, 1), (28, 1, 0, 1), (29, 0, 34, 3), (32, 1, 0, 1), (33, 1, 0, 1), (34, 0, 0, 1), (35, 0, 0, 3), (38, 0, 0, 1), (39, 0, 0, 3), (42, 1, 0, 1), (43, 0, 0, 1), (44, 0, 0, 3), (47, 1, 0, 1)], [(48, 1, 0, 1), (49, 0, 0, 1), (50, 0, 72, 3), (53, 0, 0, 1), (54, 0, 0, 3), (57, 0, 0, 1), (58, 0, 0, 3), (61, 0, 0, 1), (62, 0, 0, 1), (63, 1, 0, 1), (64, 0, 0, 1), (65, 0, 0, 3), (68, 1, 0, 1), (69, 0, 34, 3), (72, 1, 0, 1), (73, 1, 0, 1)], [(74, 0, 0, 1), (75, 0, 72, 3), (78, 0, 0, 1), (79, 0, 0, 1), (80, 1, 0, 1), (81, 0, 34, 3), (84, 1, 0, 1), (85, 1, 0, 1), (86, 0, 0, 1), (87, 0, 72, 3), (90, 0, 0, 1), (91, 0, 0, 1), (92, 0, 0, 1), (93, 0, 0, 0)]]
def ph_206 : List (List (Nat × Nat × Nat × Nat)) := [[(0, 0, 0, 1), (1, 1, 0, 1), (2, 1, 0, 1), (3, 1, 0, 2), (5, 0, 0, 3), (8, 1, 0, 1), (9, 0, 34, 3), (12, 1, 0, 1), (13, 0, 0, 1), (14, 0, 0, 1), (15, 0, 0, 3), (18, 0, 0, 3), (21, 0, 0, 1), (22, 0, 0, 0)]]
def ph_207 : List (List (Nat × Nat × Nat × Nat)) := [[(0, 1, 0, 1), (1, 0, 7, 3), (4, 2, 0, 3), (7, 0, 0, 1), (8, 1, 0, 1), (9, 0, 0, 1), (10, 0, 0, 1), (11, 0, 0, 1), (12, 1, 0, 1), (13, 1, 0, 1), (14, 0, 7, 3), (17, 2, 0, 3), (20, 0, 0, 1), (21, 1, 0, 1), (22, 0, 0, 1), (23, 0, 0, 1)], [(24, 0, 0, 1), (25, 0, 0, 1), (26, 0, 0, 1), (27, 0, 0, 2), (29, 1, 0, 1), (30, 0, 0, 1), (31, 0, 0, 3), (34, 1, 0, 1), (35, 0, 0, 1), (36, 0, 0, 3), (39, 0, 0, 1), (40, 0, 0, 1), (41, 1, 0, 1), (42, 0, 0, 2), (44, 0, 0, 1), (45, 0, 72, 3)], [(48, 0, 0, 1), (49, 0, 0, 3), (52, 0, 0, 1), (53, 0, 0, 3), (56, 0, 0, 1), (57, 0, 0, 2), (59, 0, 0, 2), (61, 0, 0, 3), (64, 1, 0, 1), (65, 1, 0, 2), (67, 1, 0, 1), (68, 0, 0, 2), (70, 1, 0, 2), (72, 0, 72, 3), (75, 0, 0, 1), (76, 0, 123, 3)], [(79, 0, 0, 1), (80, 0, 0, 3), (83, 0, 0, 1), (84, 0, 0, 3), (87, 0, 0, 1), (88, 0, 0, 2), (90, 1, 0, 1), (91, 0, 0, 1), (92, 0, 0, 3), (95, 0, 0, 2), (97, 0, 0, 3), (100, 0, 0, 2), (102, 0, 0, 3), (105, 0, 0, 1), (106, 0, 0, 3), (109, 0, 0, 1)], [(110, 0, 0, 3), (113, 0, 0, 2), (115, 0, 0, 3), (118, 0, 0, 1), (119, 0, 0, 3), (122, 0, 0, 1), (123, 0, 0, 2), (125, 0, 0, 2), (127, 0, 0, 3), (130, 1, 0, 1), (131, 0, 0, 2), (133, 0, 0, 1), (134, 0, 72, 3), (137, 1, 0, 1), (138, 0, 0, 3), (141, 1, 0, 1)], [(142, 0, 0, 2), (144, 0, 129, 3), (147, 0, 0, 3), (150, 0, 0, 1), (151, 0, 0, 3), (154, 0, 0, 1), (155, 0, 0, 1), (156, 0, 0, 0)]]
def ph_208 : List (List (Nat × Nat × Nat × Nat)) := [[(0, 1, 0, 1), (1, 1, 245, 3), (4, 0, 0, 1), (5, 0, 0, 3), (8, 1, 245, 3), (11, 0, 0, 3), (14, 1, 0, 1), (15, 0, 0, 1), (16, 0, 0, 0)]]
def ph_209 : List (List (Nat × Nat × Nat × Nat)) := [[(0, 1, 0, 1), (1, 0, 7, 3), (4, 2, 0, 3), (7, 0, 0, 1), (8, 1, 0, 1), (9, 0, 0, 1), (10, 0, 0, 1), (11, 0, 0, 1), (12, 1, 0, 1), (13, 1, 0, 1), (14, 0, 7, 3), (17, 2, 0, 3), (20, 0, 0, 1), (21, 1, 0, 1), (22, 0, 0, 1), (23, 0, 0, 1)], [(24, 0, 0, 1), (25, 0, 0, 1), (26, 0, 0, 1), (27, 0, 0, 2), (29, 1, 0, 1), (30, 0, 0, 2), (32, 0, 0, 1), (33, 0, 72, 3), (36, 0, 0, 2), (38, 1, 0, 1), (39, 0, 0, 1), (40, 0, 0, 3), (43, 1, 0, 1), (44, 0, 0, 2), (46, 0, 0, 1), (47, 0, 72, 3)], [(50, 0, 0, 2), (52, 1, 0, 1), (53, 0, 37, 3), (56, 0, 0, 2), (58, 1, 0, 1), (59, 0, 37, 3), (62, 0, 0, 2), (64, 0, 0, 1), (65, 1, 0, 1), (66, 0, 37, 3), (69, 0, 0, 2), (71, 0, 0, 1), (72, 0, 0, 1), (73, 1, 247, 3), (76, 0, 0, 1), (77, 1, 0, 1)], [(78, 0, 37, 3), (81, 0, 0, 2), (83, 0, 0, 1), (84, 0, 0, 1), (85, 1, 0, 1), (86, 0, 37, 3), (89, 0, 0, 2), (91, 0, 0, 1), (92, 0, 0, 1), (93, 0, 0, 3), (96, 1, 0, 1), (97, 0, 0, 1), (98, 0, 0, 3), (101, 1, 0, 1), (102, 0, 37, 3), (105, 0, 0, 2)], [(107, 0, 0, 1), (108, 0, 0, 2), (110, 1, 0, 1), (111, 0, 37, 3), (114, 0, 0, 2), (116, 0, 0, 1), (117, 0, 0, 1), (118, 1, 0, 1), (119, 0, 0, 2), (121, 0, 120, 3), (124, 0, 0, 3), (127, 1, 0, 1), (128, 0, 34, 3), (131, 0, 0, 2), (133, 0, 0, 1), (134, 0, 0, 1)], [(135, 0, 0, 3), (138, 1, 0, 1), (139, 0, 37, 3), (142, 0, 0, 2), (144, 1, 0, 1), (145, 0, 37, 3), (148, 0, 0, 2), (150, 0, 0, 1), (151, 0, 0, 2), (153, 0, 0, 1), (154, 1, 247, 3), (157, 0, 0, 1), (158, 0, 0, 3), (161, 1, 0, 1), (162, 1, 0, 1), (163, 1, 0, 1)], [(164, 0, 7, 3), (167, 2, 0, 3), (170, 0, 0, 1), (171, 1, 0, 1), (172, 0, 0, 1), (173, 0, 0, 1), (174, 0, 0, 1), (175, 0, 0, 1), (176, 0, 0, 1), (177, 0, 251, 3), (180, 0, 0, 3), (183, 1, 0, 1), (184, 1, 0, 1), (185, 0, 7, 3), (188, 2, 0, 3), (191, 0, 0, 1)], [(192, 1, 0, 1), (193, 0, 0, 1), (194, 0, 0, 1), (195, 0, 0, 1), (196, 0, 0, 3), (199, 0, 0, 1), (200, 0, 0, 3), (203, 0, 0, 1), (204, 1, 0, 1), (205, 1, 0, 1), (206, 0, 123, 3), (209, 0, 0, 2), (211, 0, 0, 2), (213, 0, 0, 1), (214, 0, 0, 3), (217, 1, 0, 1)], [(218, 0, 37, 3), (221, 0, 0, 2), (223, 1, 0, 1), (224, 0, 37, 3), (227, 0, 0, 2), (229, 0, 0, 1), (230, 0, 0, 1), (231, 1, 0, 1), (232, 0, 37, 3), (235, 0, 0, 2), (237, 0, 0, 1), (238, 0, 0, 1), (239, 0, 0, 3), (242, 0, 0, 2), (244, 0, 0, 1), (245, 0, 0, 3)], [(248, 1, 0, 1), (249, 0, 37, 3), (252, 0, 0, 2), (254, 0, 0, 1), (255, 1, 76, 3), (258, 0, 0, 1), (259, 1, 0, 1), (260, 0, 0, 2), (262, 1, 0, 2), (264, 0, 72, 3), (267, 0, 0, 1), (268, 0, 0, 1), (269, 0, 0, 2), (271, 1, 0, 1), (272, 0, 37, 3), (275, 0, 0, 2)], [(277, 0, 0, 1), (278, 0, 0, 1), (279, 0, 0, 2), (281, 0, 0, 1), (282, 0, 0, 1), (283, 1, 0, 1), (284, 0, 37, 3), (287, 0, 0, 2), (289, 0, 0, 1), (290, 0, 0, 1), (291, 0, 0, 2), (293, 0, 0, 1), (294, 0, 0, 1), (295, 0, 0, 3), (298, 0, 0, 2), (300, 0, 0, 1)], [(301, 0, 0, 3), (304, 1, 0, 1), (305, 0, 37, 3), (308, 0, 0, 2), (310, 1, 0, 1), (311, 0, 37, 3), (314, 0, 0, 2), (316, 0, 0, 1), (317, 0, 0, 1), (318, 0, 0, 1), (319, 0, 0, 0)]]
def ph_210 : List (List (Nat × Nat × Nat × Nat)) := [[(0, 1, 0, 1), (1, 0, 254, 3), (4, 0, 0, 1), (5, 1, 0, 1), (6, 1, 0, 1), (7, 1, 0, 2), (9, 0, 0, 3), (12, 1, 0, 1), (13, 0, 37, 3), (16, 1, 0, 1), (17, 1, 0, 1), (18, 1, 0, 1), (19, 0, 7, 3), (22, 2, 0, 3), (25, 0, 0, 1), (26, 1, 0, 1)], [(27, 0, 0, 1), (28, 0, 0, 1), (29, 0, 0, 1), (30, 0, 0, 1), (31, 0, 0, 1), (32, 0, 0, 3), (35, 1, 245, 3), (38, 0, 0, 3), (41, 0, 0, 1), (42, 0, 0, 1), (43, 0, 0, 3), (46, 0, 0, 3), (49, 0, 0, 1), (50, 1, 0, 1), (51, 1, 0, 1), (52, 1, 0, 1)], [(53, 0, 7, 3), (56, 0, 0, 1), (57, 0, 0, 1), (58, 0, 0, 3), (61, 1, 0, 1), (62, 1, 0, 1), (63, 0, 7, 3), (66, 2, 0, 3), (69, 0, 0, 1), (70, 1, 0, 1), (71, 0, 0, 1), (72, 0, 0, 1), (73, 0, 0, 1), (74, 0, 0, 1), (75, 0, 0, 1), (76, 0, 0, 3)], [(79, 1, 0, 1), (80, 1, 0, 1), (81, 1, 0, 1), (82, 0, 257, 3), (85, 1, 0, 1), (86, 1, 0, 1), (87, 0, 260, 3), (90, 0, 0, 3), (93, 0, 0, 3), (96, 0, 0, 1), (97, 0, 0, 0)]]
def ph_211 : List (List (Nat × Nat × Nat × Nat)) := [[(0, 1, 0, 1), (1, 1, 0, 1), (2, 0, 100, 3), (5, 0, 0, 3), (8, 1, 0, 1), (9, 1, 0, 1), (10, 0, 242, 3), (13, 0, 0, 3), (16, 1, 0, 1), (17, 0, 0, 1), (18, 0, 0, 1), (19, 0, 0, 1), (20, 1, 68, 3), (23, 0, 0, 3), (26, 0, 263, 3), (29, 0, 0, 1)], [(30, 1, 0, 1), (31, 1, 0, 1), (32, 0, 265, 3), (35, 1, 0, 1), (36, 0, 37, 3), (39, 1, 0, 1), (40, 0, 0, 1), (41, 1, 245, 3), (44, 1, 0, 1), (45, 1, 268, 3), (48, 0, 0, 1), (49, 0, 0, 0)]]
def ph_212 : List (List (Nat × Nat × Nat × Nat)) := [[(0, 0, 0, 1), (1, 1, 0, 1), (2, 0, 0, 1), (3, 0, 0, 2), (5, 0, 0, 2), (7, 1, 0, 1), (8, 0, 7, 3), (11, 0, 0, 1), (12, 0, 0, 1), (13, 0, 0, 3), (16, 1, 0, 1), (17, 0, 7, 3), (20, 2, 0, 3), (23, 0, 0, 1), (24, 0, 0, 2), (26, 0, 0, 1)], [(27, 0, 0, 1), (28, 0, 0, 1), (29, 1, 0, 1), (30, 0, 0, 3), (33, 1, 0, 1), (34, 0, 0, 2), (36, 0, 265, 3), (39, 1, 0, 1), (40, 1, 0, 1), (41, 0, 7, 3), (44, 2, 0, 3), (47, 0, 0, 1), (48, 0, 0, 2), (50, 0, 0, 1), (51, 0, 0, 1), (52, 0, 0, 1)], [(53, 0, 0, 1), (54, 0, 0, 1), (55, 0, 0, 1), (56, 1, 0, 1), (57, 0, 37, 3), (60, 1, 0, 1), (61, 0, 0, 1), (62, 0, 0, 1), (63, 0, 0, 1), (64, 1, 0, 1), (65, 0, 0, 3), (68, 0, 0, 3), (71, 1, 0, 1), (72, 0, 0, 1), (73, 0, 0, 0)]]
def ph_213 : List (List (Nat × Nat × Nat × Nat)) := [[(0, 1, 0, 1), (1, 1, 0, 1), (2, 0, 100, 3), (5, 0, 0, 3), (8, 1, 0, 1), (9, 0, 0, 1), (10, 0, 0, 1), (11, 0, 0, 1), (12, 1, 68, 3), (15, 0, 0, 3), (18, 1, 0, 1), (19, 0, 0, 1), (20, 0, 0, 1), (21, 0, 0, 1), (22, 1, 68, 3), (25, 0, 0, 3)], [(28, 1, 0, 1), (29, 1, 0, 1), (30, 1, 0, 1), (31, 0, 272, 3), (34, 1, 245, 3), (37, 1, 0, 1), (38, 1, 268, 3), (41, 0, 0, 3), (44, 0, 263, 3), (47, 0, 0, 1), (48, 0, 0, 0)]]
def ph_214 : List (List (Nat × Nat × Nat × Nat)) := [[(0, 1, 0, 1), (1, 0, 0, 1), (2, 0, 0, 1), (3, 1, 0, 1), (4, 0, 7, 3), (7, 0, 0, 1), (8, 0, 0, 1), (9, 0, 0, 1), (10, 0, 0, 1), (11, 0, 0, 1), (12, 1, 68, 3), (15, 0, 0, 1), (16, 0, 0, 0)]]
def ph_215 : List (List (Nat × Nat × Nat × Nat)) := [[(0, 1, 0, 1), (1, 1, 0, 1), (2, 0, 100, 3), (5, 0, 0, 3), (8, 0, 0, 1), (9, 0, 0, 1), (10, 1, 0, 1), (11, 1, 0, 1), (12, 0, 78, 3), (15, 0, 0, 3), (18, 1, 0, 2), (20, 0, 0, 1), (21, 1, 0, 1), (22, 0, 7, 3), (25, 0, 0, 1), (26, 0, 0, 1)], [(27, 1, 0, 2), (29, 0, 0, 3), (32, 1, 0, 2), (34, 0, 0, 1), (35, 1, 0, 1), (36, 0, 7, 3), (39, 2, 0, 3), (42, 0, 0, 1), (43, 1, 0, 1), (44, 0, 7, 3), (47, 0, 0, 1), (48, 0, 0, 1), (49, 0, 0, 1), (50, 0, 0, 1), (51, 1, 0, 1), (52, 0, 0, 1)], [(53, 1, 0, 1), (54, 0, 7, 3), (57, 2, 0, 3), (60, 0, 0, 1), (61, 1, 0, 1), (62, 0, 7, 3), (65, 0, 0, 1), (66, 0, 0, 1), (67, 0, 0, 1), (68, 0, 0, 1), (69, 0, 0, 1), (70, 0, 0, 1), (71, 1, 0, 1), (72, 0, 7, 3), (75, 0, 0, 1), (76, 0, 0, 1)], [(77, 0, 0, 1), (78, 1, 0, 1), (79, 0, 7, 3), (82, 0, 0, 1), (83, 0, 0, 1), (84, 0, 0, 1), (85, 0, 0, 1), (86, 0, 0, 1), (87, 0, 0, 1), (88, 1, 0, 1), (89, 0, 7, 3), (92, 0, 0, 1), (93, 0, 0, 1), (94, 0, 0, 1), (95, 0, 0, 1), (96, 0, 0, 1)], [(97, 0, 0, 0)]]
def ph_216 : List (List (Nat × Nat × Nat × Nat)) := [[(0, 0, 0, 1), (1, 1, 0, 1), (2, 0, 0, 1), (3, 1, 0, 1), (4, 1, 0, 1), (5, 1, 0, 1), (6, 0, 7, 3), (9, 0, 0, 1), (10, 0, 0, 1), (11, 0, 0, 3), (14, 1, 0, 1), (15, 1, 0, 1), (16, 0, 0, 1), (17, 0, 72, 3), (20, 0, 0, 2), (22, 1, 0, 1)], [(23, 1, 0, 1), (24, 0, 7, 3), (27, 2, 0, 3), (30, 0, 0, 1), (31, 1, 0, 1), (32, 0, 0, 1), (33, 0, 0, 1), (34, 0, 0, 1), (35, 0, 0, 3), (38, 0, 0, 1), (39, 0, 0, 3), (42, 0, 0, 1), (43, 0, 0, 2), (45, 1, 0, 1), (46, 1, 0, 1), (47, 0, 120, 3)], [(50, 0, 0, 3), (53, 0, 0, 2), (55, 0, 0, 3), (58, 1, 0, 1), (59, 1, 0, 1), (60, 0, 0, 1), (61, 0, 72, 3), (64, 1, 0, 1), (65, 0, 7, 3), (68, 2, 0, 3), (71, 0, 0, 1), (72, 1, 0, 1), (73, 0, 0, 1), (74, 0, 0, 1), (75, 0, 0, 1), (76, 0, 0, 1)], [(77, 0, 0, 1), (78, 0, 0, 3), (81, 1, 0, 1), (82, 0, 0, 2), (84, 0, 0, 1), (85, 0, 0, 1), (86, 0, 0, 1), (87, 0, 0, 1), (88, 0, 0, 3), (91, 1, 0, 1), (92, 1, 0, 1), (93, 0, 0, 1), (94, 0, 72, 3), (97, 0, 0, 1), (98, 0, 0, 3), (101, 1, 0, 1)], [(102, 0, 0, 1), (103, 0, 0, 1), (104, 0, 0, 3), (107, 0, 0, 1), (108, 0, 0, 3), (111, 0, 0, 1), (112, 0, 0, 2), (114, 0, 0, 3), (117, 1, 0, 1), (118, 1, 0, 1), (119, 0, 0, 1), (120, 0, 72, 3), (123, 0, 0, 1), (124, 0, 0, 3), (127, 0, 0, 2), (129, 0, 0, 3)], [(132, 1, 0, 1), (133, 0, 0, 2), (135, 0, 0, 1), (136, 0, 0, 1), (137, 0, 0, 1), (138, 0, 0, 1), (139, 0, 0, 3), (142, 1, 0, 1), (143, 1, 0, 1), (144, 1, 0, 1), (145, 0, 0, 1), (146, 0, 72, 3), (149, 0, 0, 1), (150, 0, 0, 1), (151, 0, 0, 1), (152, 0, 0, 1)], [(153, 0, 0, 3), (156, 0, 0, 1), (157, 0, 0, 3), (160, 0, 0, 1), (161, 0, 0, 2), (163, 1, 0, 1), (164, 0, 0, 2), (166, 0, 0, 3), (169, 0, 0, 1), (170, 1, 0, 1), (171, 0, 0, 1), (172, 0, 0, 3), (175, 0, 0, 1), (176, 0, 0, 1), (177, 1, 0, 1), (178, 0, 0, 3)], [(181, 0, 0, 3), (184, 1, 0, 1), (185, 0, 0, 1), (186, 0, 0, 0)]]
def ph_217 : List (List (Nat × Nat × Nat × Nat)) := [[(0, 1, 0, 1), (1, 1, 0, 1), (2, 0, 100, 3), (5, 0, 0, 3), (8, 1, 0, 1), (9, 1, 0, 1), (10, 0, 276, 3), (13, 0, 0, 3), (16, 1, 0, 1), (17, 1, 0, 1), (18, 0, 279, 3), (21, 1, 0, 1), (22, 0, 0, 1), (23, 0, 0, 1), (24, 0, 0, 1), (25, 0, 0, 3)], [(28, 0, 0, 1), (29, 0, 0, 1), (30, 0, 0, 0)]]
def ph_218 : List (List (Nat × Nat × Nat × Nat)) := [[(0, 1, 0, 1), (1, 1, 0, 1), (2, 0, 78, 3), (5, 0, 0, 3), (8, 1, 0, 1), (9, 1, 0, 1), (10, 0, 129, 3), (13, 0, 0, 3), (16, 0, 0, 1), (17, 0, 0, 3), (20, 0, 0, 1), (21, 0, 0, 1), (22, 0, 0, 0)]]
def ph_219 : List (List (Nat × Nat × Nat × Nat)) := [[(0, 1, 0, 1), (1, 1, 0, 1), (2, 1, 0, 1), (3, 0, 0, 3), (6, 1, 0, 1), (7, 1, 0, 1), (8, 0, 0, 1), (9, 0, 72, 3), (12, 1, 0, 2), (14, 0, 0, 3), (17, 1, 0, 1), (18, 1, 0, 1), (19, 1, 0, 2), (21, 0, 72, 3), (24, 1, 0, 1), (25, 0, 0, 3)], [(28, 1, 0, 1), (29, 0, 0, 1), (30, 0, 0, 0)]]
def ph_220 : List (List (Nat × Nat × Nat × Nat)) := [[(0, 1, 0, 1), (1, 1, 0, 1), (2, 0, 276, 3), (5, 0, 0, 3), (8, 0, 0, 1), (9, 0, 0, 1), (10, 1, 0, 1), (11, 0, 7, 3), (14, 2, 0, 3), (17, 0, 0, 1), (18, 1, 0, 1), (19, 0, 0, 1), (20, 0, 0, 1), (21, 0, 0, 1), (22, 1, 0, 1), (23, 1, 0, 1)], [(24, 0, 0, 1), (25, 1, 0, 1), (26, 0, 234, 3), (29, 1, 0, 1), (30, 1, 0, 1), (31, 0, 0, 1), (32, 0, 0, 3), (35, 1, 0, 1), (36, 1, 0, 1), (37, 0, 279, 3), (40, 0, 0, 2), (42, 0, 0, 1), (43, 0, 0, 2), (45, 0, 0, 2), (47, 1, 0, 1), (48, 0, 7, 3)], [(51, 0, 0, 1), (52, 0, 0, 1), (53, 0, 0, 3), (56, 0, 0, 2), (58, 1, 0, 1), (59, 0, 0, 2), (61, 0, 282, 3), (64, 0, 0, 3), (67, 0, 0, 1), (68, 0, 0, 3), (71, 0, 0, 1), (72, 0, 0, 2), (74, 0, 0, 1), (75, 0, 0, 1), (76, 0, 0, 1), (77, 0, 0, 1)], [(78, 0, 0, 2), (80, 0, 0, 3), (83, 0, 0, 3), (86, 0, 0, 2), (88, 0, 0, 1), (89, 1, 0, 1), (90, 0, 0, 3), (93, 1, 0, 1), (94, 1, 0, 1), (95, 0, 285, 3), (98, 0, 0, 3), (101, 1, 0, 1), (102, 1, 0, 1), (103, 1, 0, 1), (104, 0, 132, 3), (107, 0, 0, 1)], [(108, 0, 72, 3), (111, 1, 0, 2), (113, 0, 0, 3), (116, 0, 0, 1), (117, 0, 0, 3), (120, 1, 0, 1), (121, 1, 0, 1), (122, 0, 132, 3), (125, 0, 0, 2), (127, 0, 0, 2), (129, 0, 0, 3), (132, 0, 0, 1), (133, 0, 0, 3), (136, 0, 0, 1), (137, 0, 0, 2), (139, 0, 0, 1)], [(140, 0, 0, 1), (141, 0, 0, 0)]]
def ph_221 : List (List (Nat × Nat × Nat × Nat)) := [[(0, 1, 0, 1), (1, 1, 0, 1), (2, 0, 100, 3), (5, 0, 0, 3), (8, 1, 0, 1), (9, 1, 0, 1), (10, 0, 100, 3), (13, 0, 0, 3), (16, 0, 0, 1), (17, 0, 0, 1), (18, 1, 0, 2), (20, 1, 0, 1), (21, 1, 0, 1), (22, 0, 7, 3), (25, 0, 0, 1), (26, 0, 0, 1)], [(27, 0, 0, 1), (28, 0, 0, 1), (29, 0, 0, 2), (31, 0, 0, 2), (33, 0, 0, 3), (36, 1, 0, 1), (37, 0, 0, 2), (39, 0, 279, 3), (42, 0, 0, 2), (44, 0, 0, 2), (46, 1, 0, 1), (47, 0, 0, 1), (48, 0, 0, 1), (49, 0, 0, 1), (50, 0, 0, 2), (52, 1, 0, 1)], [(53, 0, 0, 1), (54, 0, 0, 1), (55, 0, 0, 1), (56, 0, 0, 3), (59, 0, 0, 2), (61, 0, 0, 3), (64, 1, 0, 1), (65, 1, 0, 1), (66, 0, 0, 3), (69, 0, 0, 3), (72, 1, 0, 1), (73, 0, 0, 1), (74, 0, 0, 0)]]
def ph_222 : List (List (Nat × Nat × Nat × Nat)) := [[(0, 0, 0, 1), (1, 1, 0, 1), (2, 1, 0, 1), (3, 1, 0, 1), (4, 1, 0, 1), (5, 0, 0, 3), (8, 0, 0, 3), (11, 1, 0, 1), (12, 1, 0, 1), (13, 0, 0, 1), (14, 0, 0, 1), (15, 0, 0, 1), (16, 1, 0, 1), (17, 0, 0, 3), (20, 1, 0, 1), (21, 0, 0, 1)], [(22, 0, 0, 0)]]
def ph_223 : List (List (Nat × Nat × Nat × Nat)) := [[(0, 0, 0, 1), (1, 1, 0, 1), (2, 0, 0, 1), (3, 1, 0, 1), (4, 1, 0, 1), (5, 1, 0, 1), (6, 0, 7, 3), (9, 0, 0, 1), (10, 0, 0, 1), (11, 0, 0, 3), (14, 0, 0, 1), (15, 0, 0, 2), (17, 0, 0, 2), (19, 1, 0, 1), (20, 0, 0, 3), (23, 1, 0, 1)], [(24, 0, 41, 3), (27, 1, 0, 1), (28, 0, 0, 1), (29, 1, 0, 1), (30, 0, 41, 3), (33, 0, 0, 2), (35, 0, 0, 1), (36, 0, 0, 1), (37, 0, 0, 2), (39, 1, 0, 1), (40, 0, 0, 3), (43, 1, 0, 1), (44, 1, 0, 1), (45, 0, 0, 1), (46, 0, 72, 3), (49, 1, 0, 2)], [(51, 0, 0, 3), (54, 1, 0, 1), (55, 0, 0, 2), (57, 0, 0, 1), (58, 0, 72, 3), (61, 1, 0, 2), (63, 0, 0, 3), (66, 0, 0, 2), (68, 0, 0, 3), (71, 0, 0, 2), (73, 1, 0, 1), (74, 0, 0, 1), (75, 0, 0, 3), (78, 0, 0, 1), (79, 0, 0, 3), (82, 0, 0, 1)], [(83, 1, 0, 1), (84, 0, 0, 3), (87, 0, 0, 3), (90, 0, 0, 3), (93, 0, 0, 3), (96, 1, 0, 1), (97, 0, 0, 1), (98, 0, 0, 0)]]
def ph_224 : List (List (Nat × Nat × Nat × Nat)) := [[(0, 1, 0, 1), (1, 0, 0, 1), (2, 0, 0, 1), (3, 0, 0, 1), (4, 1, 68, 3), (7, 0, 0, 3), (10, 0, 0, 1), (11, 0, 0, 1), (12, 0, 0, 1), (13, 1, 0, 1), (14, 1, 0, 1), (15, 1, 0, 2), (17, 0, 0, 3), (20, 1, 0, 1), (21, 0, 41, 3), (24, 1, 0, 1)], [(25, 0, 0, 1), (26, 0, 0, 1), (27, 0, 0, 3), (30, 0, 0, 3), (33, 0, 0, 1), (34, 1, 0, 1), (35, 1, 0, 1), (36, 1, 0, 1), (37, 0, 7, 3), (40, 0, 0, 1), (41, 0, 0, 1), (42, 0, 0, 3), (45, 1, 0, 1), (46, 1, 0, 1), (47, 0, 279, 3), (50, 1, 0, 1)], [(51, 0, 0, 1), (52, 0, 0, 2), (54, 0, 0, 2), (56, 1, 0, 1), (57, 0, 7, 3), (60, 0, 0, 1), (61, 0, 0, 1), (62, 0, 0, 3), (65, 1, 0, 1), (66, 0, 41, 3), (69, 0, 0, 2), (71, 0, 0, 1), (72, 0, 0, 1), (73, 1, 0, 1), (74, 0, 0, 2), (76, 0, 0, 1)], [(77, 0, 0, 1), (78, 0, 0, 1), (79, 1, 0, 1), (80, 0, 0, 1), (81, 0, 0, 1), (82, 0, 0, 1), (83, 0, 0, 3), (86, 0, 0, 3), (89, 0, 0, 3), (92, 0, 0, 3), (95, 0, 0, 1), (96, 1, 0, 1), (97, 0, 7, 3), (100, 0, 0, 1), (101, 0, 0, 1), (102, 0, 0, 1)], [(103, 0, 0, 1), (104, 0, 0, 1), (105, 1, 0, 1), (106, 1, 0, 1), (107, 1, 0, 1), (108, 1, 0, 1), (109, 0, 0, 3), (112, 1, 0, 1), (113, 1, 288, 3), (116, 1, 0, 1), (117, 1, 288, 3), (120, 0, 0, 3), (123, 1, 0, 1), (124, 1, 0, 1), (125, 0, 291, 3), (128, 0, 0, 3)], [(131, 1, 0, 1), (132, 0, 0, 3), (135, 1, 0, 1), (136, 1, 0, 1), (137, 0, 0, 3), (140, 0, 0, 3), (143, 1, 0, 1), (144, 0, 0, 3), (147, 1, 0, 1), (148, 1, 288, 3), (151, 0, 0, 3), (154, 1, 0, 1), (155, 0, 0, 1), (156, 0, 0, 0)]]
def ph_225 : List (List (Nat × Nat × Nat × Nat)) := [[(0, 1, 0, 1), (1, 0, 7, 3), (4, 2, 0, 3), (7, 0, 0, 1), (8, 1, 0, 1), (9, 0, 0, 1), (10, 0, 0, 1), (11, 0, 0, 1), (12, 0, 0, 2), (14, 1, 0, 1), (15, 0, 7, 3), (18, 2, 0, 3), (21, 0, 0, 1), (22, 1, 0, 1), (23, 0, 0, 1), (24, 0, 0, 1)], [(25, 0, 0, 1), (26, 0, 0, 1), (27, 0, 0, 1), (28, 0, 0, 2), (30, 1, 0, 1), (31, 0, 0, 2), (33, 0, 0, 1), (34, 0, 72, 3), (37, 0, 0, 2), (39, 0, 0, 2), (41, 0, 0, 1), (42, 0, 0, 3), (45, 1, 0, 1), (46, 0, 0, 1), (47, 0, 0, 2), (49, 0, 0, 1)], [(50, 0, 0, 1), (51, 0, 0, 1), (52, 0, 0, 1), (53, 0, 0, 1), (54, 0, 0, 2), (56, 0, 0, 1), (57, 0, 0, 3), (60, 0, 0, 1), (61, 0, 0, 2), (63, 0, 0, 1), (64, 0, 0, 1), (65, 1, 0, 1), (66, 0, 0, 2), (68, 0, 0, 1), (69, 0, 72, 3), (72, 0, 0, 1)], [(73, 0, 0, 1), (74, 0, 0, 2), (76, 1, 0, 1), (77, 0, 0, 2), (79, 0, 0, 1), (80, 0, 0, 3), (83, 1, 0, 1), (84, 0, 0, 3), (87, 1, 0, 1), (88, 0, 0, 2), (90, 0, 0, 1), (91, 0, 0, 1), (92, 0, 0, 1), (93, 0, 0, 1), (94, 0, 0, 2), (96, 0, 0, 1)], [(97, 0, 0, 1), (98, 0, 0, 1), (99, 0, 0, 2), (101, 0, 0, 3), (104, 1, 0, 1), (105, 0, 0, 2), (107, 0, 0, 1), (108, 0, 0, 1), (109, 0, 0, 1), (110, 0, 0, 3), (113, 1, 0, 1), (114, 1, 0, 1), (115, 1, 0, 1), (116, 0, 251, 3), (119, 0, 0, 3), (122, 1, 0, 1)], [(123, 0, 0, 1), (124, 1, 0, 1), (125, 0, 0, 1), (126, 1, 0, 1), (127, 0, 0, 1), (128, 0, 123, 3), (131, 0, 0, 2), (133, 0, 0, 2), (135, 0, 0, 1), (136, 0, 0, 3), (139, 0, 0, 2), (141, 0, 0, 1), (142, 0, 0, 3), (145, 1, 0, 1), (146, 0, 0, 1), (147, 0, 0, 2)], [(149, 0, 0, 1), (150, 0, 0, 1), (151, 0, 0, 1), (152, 0, 0, 1), (153, 0, 0, 3), (156, 1, 0, 1), (157, 0, 0, 2), (159, 0, 0, 2), (161, 0, 0, 1), (162, 0, 0, 3), (165, 0, 0, 2), (167, 0, 0, 1), (168, 0, 0, 3), (171, 0, 0, 2), (173, 0, 0, 1), (174, 0, 0, 2)], [(176, 0, 0, 1), (177, 0, 0, 1), (178, 0, 0, 3), (181, 0, 0, 2), (183, 0, 0, 1), (184, 0, 0, 0)]]
def ph_226 : List (List (Nat × Nat × Nat × Nat)) := [[(0, 2, 0, 3), (3, 0, 0, 1), (4, 1, 0, 1), (5, 0, 0, 1), (6, 0, 0, 1), (7, 1, 0, 1), (8, 1, 0, 1), (9, 0, 0, 1), (10, 1, 0, 1), (11, 0, 7, 3), (14, 1, 0, 1), (15, 0, 0, 1), (16, 0, 0, 1), (17, 0, 294, 3), (20, 1, 0, 1), (21, 0, 0, 1)], [(22, 1, 0, 1), (23, 0, 7, 3), (26, 1, 0, 1), (27, 0, 0, 1), (28, 0, 0, 1), (29, 0, 0, 1), (30, 0, 0, 1), (31, 0, 297, 3), (34, 1, 0, 1), (35, 0, 7, 3), (38, 1, 0, 1), (39, 0, 0, 1), (40, 0, 0, 1), (41, 0, 0, 1), (42, 1, 0, 1), (43, 1, 0, 1)], [(44, 1, 0, 1), (45, 0, 7, 3), (48, 0, 0, 1), (49, 0, 0, 1), (50, 0, 0, 3), (53, 1, 0, 1), (54, 1, 0, 1), (55, 1, 0, 1), (56, 1, 0, 1), (57, 0, 294, 3), (60, 1, 0, 1), (61, 0, 7, 3), (64, 1, 0, 1), (65, 0, 0, 1), (66, 0, 0, 1), (67, 0, 0, 1)], [(68, 0, 300, 3), (71, 0, 294, 3), (74, 1, 0, 1), (75, 1, 0, 1), (76, 1, 0, 1), (77, 1, 0, 1), (78, 0, 297, 3), (81, 1, 0, 1), (82, 0, 7, 3), (85, 1, 0, 1), (86, 0, 0, 1), (87, 0, 0, 1), (88, 0, 0, 1), (89, 0, 300, 3), (92, 0, 297, 3), (95, 0, 0, 3)], [(98, 0, 0, 3), (101, 0, 0, 1), (102, 0, 0, 0)]]
def ph_227 : List (List (Nat × Nat × Nat × Nat)) := [[(0, 0, 0, 1), (1, 1, 0, 1), (2, 0, 0, 1), (3, 1, 0, 1), (4, 1, 0, 1), (5, 1, 0, 1), (6, 0, 7, 3), (9, 0, 0, 1), (10, 0, 0, 1), (11, 0, 0, 3), (14, 1, 0, 1), (15, 1, 0, 1), (16, 0, 303, 3), (19, 1, 0, 1), (20, 1, 0, 1), (21, 0, 294, 3)], [(24, 1, 0, 1), (25, 0, 0, 1), (26, 0, 0, 1), (27, 0, 0, 1), (28, 0, 0, 1), (29, 0, 0, 3), (32, 1, 0, 1), (33, 0, 297, 3), (36, 0, 0, 3), (39, 0, 0, 1), (40, 0, 0, 1), (41, 1, 0, 1), (42, 1, 0, 1), (43, 1, 0, 1), (44, 0, 297, 3), (47, 1, 0, 1)], [(48, 0, 0, 1), (49, 0, 0, 1), (50, 0, 0, 1), (51, 0, 0, 1), (52, 0, 0, 3), (55, 1, 0, 1), (56, 0, 294, 3), (59, 0, 0, 3), (62, 0, 0, 1), (63, 0, 0, 1), (64, 1, 0, 1), (65, 0, 0, 3), (68, 0, 0, 3), (71, 1, 0, 1), (72, 0, 0, 1), (73, 1, 0, 1)], [(74, 0, 0, 1), (75, 0, 0, 1), (76, 0, 0, 1), (77, 0, 0, 1), (78, 0, 0, 1), (79, 0, 0, 0)]]
def ph_228 : List (List (Nat × Nat × Nat × Nat)) := [[(0, 1, 0, 1), (1, 1, 0, 1), (2, 0, 100, 3), (5, 0, 0, 3), (8, 1, 0, 1), (9, 1, 0, 1), (10, 0, 100, 3), (13, 0, 0, 3), (16, 1, 0, 1), (17, 1, 0, 1), (18, 0, 0, 3), (21, 0, 0, 1), (22, 0, 0, 1), (23, 1, 0, 1), (24, 1, 0, 1), (25, 0, 78, 3)], [(28, 0, 0, 3), (31, 1, 0, 1), (32, 1, 0, 1), (33, 0, 78, 3), (36, 0, 0, 3), (39, 1, 0, 1), (40, 1, 0, 1), (41, 0, 306, 3), (44, 1, 0, 1), (45, 0, 0, 1), (46, 0, 0, 1), (47, 0, 0, 1), (48, 0, 0, 1), (49, 0, 0, 3), (52, 1, 0, 2), (54, 0, 0, 1)], [(55, 1, 0, 1), (56, 0, 7, 3), (59, 0, 0, 1), (60, 0, 0, 1), (61, 1, 0, 2), (63, 0, 0, 3), (66, 1, 0, 2), (68, 0, 0, 1), (69, 2, 0, 3), (72, 0, 0, 1), (73, 1, 0, 1), (74, 0, 7, 3), (77, 0, 0, 1), (78, 0, 0, 1), (79, 0, 0, 1), (80, 0, 0, 1)], [(81, 1, 0, 1), (82, 1, 0, 1), (83, 0, 7, 3), (86, 1, 0, 1), (87, 1, 0, 1), (88, 0, 0, 1), (89, 1, 0, 1), (90, 0, 7, 3), (93, 1, 0, 1), (94, 0, 0, 1), (95, 0, 0, 1), (96, 1, 0, 1), (97, 0, 0, 1), (98, 1, 0, 1), (99, 0, 7, 3), (102, 1, 0, 1)], [(103, 0, 0, 1), (104, 0, 0, 1), (105, 1, 0, 1), (106, 0, 7, 3), (109, 0, 0, 1), (110, 0, 0, 1), (111, 0, 0, 1), (112, 1, 0, 1), (113, 0, 7, 3), (116, 1, 0, 1), (117, 0, 0, 1), (118, 0, 0, 1), (119, 1, 0, 1), (120, 0, 7, 3), (123, 0, 0, 1), (124, 0, 0, 1)], [(125, 0, 0, 1), (126, 1, 0, 1), (127, 0, 7, 3), (130, 0, 0, 1), (131, 0, 0, 1), (132, 0, 0, 1), (133, 0, 0, 1), (134, 0, 0, 1), (135, 0, 0, 1), (136, 1, 0, 1), (137, 0, 7, 3), (140, 0, 0, 1), (141, 0, 0, 1), (142, 0, 0, 1), (143, 0, 0, 1), (144, 0, 0, 1)], [(145, 0, 0, 0)]]
def ph_229 : List (List (Nat × Nat × Nat × Nat)) := [[(0, 1, 0, 1), (1, 1, 0, 1), (2, 0, 100, 3), (5, 0, 0, 3), (8, 1, 0, 1), (9, 1, 0, 1), (10, 0, 306, 3), (13, 0, 0, 3), (16, 0, 0, 1), (17, 0, 0, 1), (18, 0, 0, 0)]]
def ph_230 : List (List (Nat × Nat × Nat × Nat)) := [[(0, 1, 0, 1), (1, 0, 0, 1), (2, 0, 309, 3), (5, 1, 0, 1), (6, 0, 0, 1), (7, 0, 312, 3), (10, 1, 0, 1), (11, 0, 7, 3), (14, 0, 0, 1), (15, 0, 0, 1), (16, 0, 0, 1), (17, 0, 0, 1), (18, 1, 0, 1), (19, 1, 0, 1), (20, 0, 0, 3), (23, 1, 0, 1)], [(24, 1, 0, 1), (25, 0, 132, 3), (28, 1, 0, 1), (29, 0, 0, 3), (32, 1, 0, 1), (33, 1, 0, 1), (34, 0, 282, 3), (37, 0, 0, 3), (40, 1, 0, 1), (41, 0, 0, 1), (42, 0, 309, 3), (45, 0, 0, 1), (46, 0, 0, 1), (47, 0, 309, 3), (50, 1, 0, 1), (51, 1, 0, 1)], [(52, 0, 312, 3), (55, 0, 0, 3), (58, 0, 0, 3), (61, 0, 0, 1), (62, 0, 0, 0)]]
def ph_231 : List (List (Nat × Nat × Nat × Nat)) := [[(0, 1, 0, 1), (1, 1, 0, 1), (2, 0, 282, 3), (5, 0, 0, 3), (8, 0, 0, 1), (9, 0, 0, 1), (10, 1, 0, 1), (11, 0, 0, 1), (12, 1, 0, 1), (13, 0, 234, 3), (16, 1, 0, 1), (17, 1, 0, 1), (18, 0, 0, 3), (21, 0, 0, 1), (22, 0, 0, 3), (25, 1, 0, 1)], [(26, 0, 0, 1), (27, 0, 0, 3), (30, 0, 0, 1), (31, 0, 0, 3), (34, 1, 0, 1), (35, 1, 0, 1), (36, 0, 312, 3), (39, 0, 0, 3), (42, 0, 0, 1), (43, 0, 0, 3), (46, 0, 0, 1), (47, 0, 0, 1), (48, 0, 0, 0)]]
def ph_232 : List (List (Nat × Nat × Nat × Nat)) := [[(0, 1, 0, 1), (1, 1, 0, 1), (2, 0, 100, 3), (5, 0, 0, 3), (8, 1, 0, 1), (9, 0, 0, 1), (10, 0, 0, 1), (11, 0, 0, 1), (12, 1, 68, 3), (15, 0, 0, 3), (18, 0, 0, 1), (19, 0, 0, 1), (20, 1, 0, 1), (21, 1, 0, 1), (22, 1, 0, 1), (23, 0, 132, 3)], [(26, 0, 315, 3), (29, 1, 0, 1), (30, 1, 0, 1), (31, 0, 318, 3), (34, 1, 0, 1), (35, 1, 0, 1), (36, 0, 0, 3), (39, 1, 0, 1), (40, 0, 0, 3), (43, 0, 0, 1), (44, 0, 0, 3), (47, 0, 0, 1), (48, 0, 0, 3), (51, 1, 0, 1), (52, 0, 0, 1), (53, 0, 0, 3)], [(56, 1, 0, 1), (57, 0, 309, 3), (60, 0, 0, 3), (63, 0, 0, 1), (64, 0, 0, 1), (65, 0, 0, 0)]]
def ph_233 : List (List (Nat × Nat × Nat × Nat)) := [[(0, 1, 0, 1), (1, 1, 0, 1), (2, 0, 100, 3), (5, 0, 0, 3), (8, 0, 0, 1), (9, 0, 0, 1), (10, 1, 0, 1), (11, 1, 0, 1), (12, 0, 0, 1), (13, 0, 72, 3), (16, 0, 0, 1), (17, 0, 0, 3), (20, 1, 0, 2), (22, 0, 0, 1), (23, 1, 0, 1), (24, 1, 0, 1)], [(25, 0, 315, 3), (28, 0, 0, 1), (29, 1, 0, 1), (30, 0, 0, 1), (31, 1, 0, 1), (32, 0, 0, 1), (33, 0, 0, 2), (35, 0, 0, 2), (37, 1, 0, 1), (38, 0, 7, 3), (41, 0, 0, 1), (42, 0, 0, 1), (43, 0, 0, 3), (46, 1, 0, 1), (47, 0, 0, 2), (49, 0, 132, 3)], [(52, 1, 0, 1), (53, 0, 0, 3), (56, 1, 0, 1), (57, 0, 0, 2), (59, 0, 318, 3), (62, 0, 0, 3), (65, 0, 0, 1), (66, 0, 0, 2), (68, 1, 0, 1), (69, 0, 0, 2), (71, 0, 0, 1), (72, 0, 0, 3), (75, 0, 0, 1), (76, 0, 0, 3), (79, 0, 0, 1), (80, 0, 0, 1)], [(81, 1, 0, 1), (82, 1, 0, 1), (83, 0, 0, 2), (85, 0, 0, 1), (86, 0, 0, 3), (89, 0, 0, 1), (90, 0, 0, 3), (93, 0, 0, 1), (94, 0, 0, 1), (95, 1, 0, 1), (96, 0, 0, 3), (99, 0, 0, 3), (102, 1, 0, 1), (103, 0, 0, 3), (106, 1, 0, 1), (107, 0, 0, 3)], [(110, 1, 0, 1), (111, 1, 0, 1), (112, 1, 0, 1), (113, 0, 309, 3), (116, 0, 0, 1), (117, 0, 0, 1), (118, 0, 0, 1), (119, 0, 0, 0)]]
def ph_234 : List (List (Nat × Nat × Nat × Nat)) := [[(0, 0, 0, 1), (1, 1, 0, 1), (2, 1, 0, 1), (3, 2, 0, 3), (6, 0, 0, 3), (9, 1, 0, 1), (10, 0, 16, 3), (13, 1, 0, 1), (14, 1, 0, 1), (15, 0, 7, 3), (18, 1, 0, 1), (19, 0, 0, 1), (20, 0, 0, 1), (21, 0, 0, 3), (24, 0, 0, 3), (27, 0, 0, 1)], [(28, 0, 0, 0)]]
def ph_235 : List (List (Nat × Nat × Nat × Nat)) := [[(0, 0, 0, 1), (1, 1, 0, 1), (2, 1, 0, 1), (3, 2, 0, 3), (6, 0, 0, 3), (9, 1, 0, 1), (10, 0, 7, 3), (13, 1, 0, 1), (14, 1, 0, 1), (15, 0, 16, 3), (18, 1, 0, 1), (19, 0, 0, 1), (20, 0, 0, 1), (21, 0, 0, 3), (24, 0, 0, 3), (27, 0, 0, 1)], [(28, 0, 0, 0)]]
def ph_236 : List (List (Nat × Nat × Nat × Nat)) := [[(0, 1, 0, 1), (1, 0, 0, 3), (4, 1, 0, 1), (5, 0, 0, 1), (6, 0, 0, 3), (9, 1, 0, 1), (10, 0, 0, 3), (13, 1, 0, 1), (14, 0, 7, 3), (17, 0, 0, 1), (18, 0, 0, 1), (19, 1, 0, 2), (21, 0, 0, 3), (24, 0, 0, 1), (25, 0, 0, 3), (28, 0, 0, 1)], [(29, 0, 0, 3), (32, 1, 0, 1), (33, 0, 92, 3), (36, 1, 0, 1), (37, 1, 0, 1), (38, 0, 0, 3), (41, 1, 0, 1), (42, 0, 0, 1), (43, 0, 0, 3), (46, 1, 0, 1), (47, 0, 0, 1), (48, 0, 0, 1), (49, 1, 0, 1), (50, 0, 0, 3), (53, 1, 0, 1), (54, 1, 0, 1)], [(55, 0, 0, 1), (56, 0, 0, 1), (57, 0, 78, 3), (60, 0, 0, 3), (63, 0, 263, 3), (66, 0, 0, 1), (67, 1, 0, 1), (68, 0, 0, 2), (70, 1, 0, 1), (71, 0, 0, 1), (72, 0, 0, 3), (75, 1, 0, 1), (76, 1, 0, 1), (77, 0, 0, 1), (78, 0, 0, 1), (79, 1, 0, 1)], [(80, 0, 7, 3), (83, 0, 0, 1), (84, 0, 0, 1), (85, 0, 0, 1), (86, 0, 105, 3), (89, 0, 0, 1), (90, 0, 0, 3), (93, 1, 0, 1), (94, 0, 0, 1), (95, 0, 0, 3), (98, 1, 0, 1), (99, 1, 0, 1), (100, 0, 0, 1), (101, 0, 0, 1), (102, 1, 0, 1), (103, 0, 7, 3)], [(106, 0, 0, 1), (107, 0, 0, 1), (108, 0, 0, 1), (109, 0, 105, 3), (112, 0, 0, 1), (113, 0, 0, 3), (116, 1, 0, 1), (117, 0, 0, 1), (118, 0, 0, 3), (121, 1, 0, 1), (122, 1, 0, 1), (123, 0, 112, 3), (126, 0, 0, 3), (129, 1, 0, 1), (130, 0, 0, 1), (131, 0, 0, 3)], [(134, 1, 0, 1), (135, 1, 0, 1), (136, 1, 0, 1), (137, 0, 0, 1), (138, 0, 0, 1), (139, 0, 109, 3), (142, 0, 0, 2), (144, 1, 0, 1), (145, 0, 0, 2), (147, 0, 0, 1), (148, 0, 272, 3), (151, 1, 245, 3), (154, 0, 0, 1), (155, 0, 0, 1), (156, 0, 0, 0)]]
def ph_237 : List (List (Nat × Nat × Nat × Nat)) := [[(0, 1, 0, 1), (1, 1, 0, 1), (2, 0, 100, 3), (5, 0, 0, 3), (8, 1, 0, 1), (9, 0, 0, 1), (10, 0, 0, 1), (11, 0, 0, 1), (12, 1, 68, 3), (15, 0, 0, 3), (18, 0, 263, 3), (21, 0, 0, 1), (22, 1, 0, 1), (23, 1, 0, 1), (24, 0, 78, 3), (27, 0, 0, 3)], [(30, 0, 321, 3), (33, 0, 0, 1), (34, 1, 0, 1), (35, 0, 323, 3), (38, 1, 0, 1), (39, 0, 7, 3), (42, 0, 0, 1), (43, 0, 0, 1), (44, 1, 0, 1), (45, 0, 0, 1), (46, 0, 0, 2), (48, 0, 263, 3), (51, 0, 0, 2), (53, 0, 0, 1), (54, 0, 0, 2), (56, 0, 0, 2)], [(58, 0, 0, 1), (59, 1, 0, 1), (60, 0, 0, 1), (61, 0, 0, 3), (64, 1, 0, 1), (65, 1, 0, 1), (66, 0, 0, 2), (68, 0, 326, 3), (71, 0, 0, 2), (73, 1, 0, 1), (74, 0, 329, 3), (77, 0, 0, 2), (79, 0, 0, 1), (80, 0, 0, 1), (81, 0, 0, 3), (84, 0, 0, 2)], [(86, 0, 0, 1), (87, 0, 0, 1), (88, 0, 0, 3), (91, 0, 0, 2), (93, 0, 0, 2), (95, 0, 0, 1), (96, 0, 0, 3), (99, 0, 0, 2), (101, 0, 0, 2), (103, 0, 0, 2), (105, 0, 0, 2), (107, 0, 0, 3), (110, 0, 0, 3), (113, 1, 0, 1), (114, 0, 0, 3), (117, 0, 0, 2)], [(119, 0, 0, 1), (120, 0, 0, 3), (123, 0, 0, 2), (125, 0, 0, 1), (126, 0, 0, 0)]]
def ph_238 : List (List (Nat × Nat × Nat × Nat)) := [[(0, 1, 0, 1), (1, 1, 0, 1), (2, 0, 100, 3), (5, 0, 0, 3), (8, 1, 0, 1), (9, 0, 0, 1), (10, 0, 0, 1), (11, 1, 76, 3), (14, 1, 68, 3), (17, 0, 0, 3), (20, 1, 0, 1), (21, 0, 0, 1), (22, 0, 0, 1), (23, 0, 0, 1), (24, 1, 68, 3), (27, 0, 0, 3)], [(30, 0, 263, 3), (33, 0, 0, 1), (34, 1, 0, 1), (35, 1, 0, 1), (36, 0, 78, 3), (39, 0, 0, 3), (42, 0, 321, 3), (45, 0, 0, 1), (46, 1, 0, 1), (47, 0, 7, 3), (50, 0, 0, 1), (51, 0, 0, 1), (52, 1, 0, 2), (54, 0, 0, 3), (57, 1, 0, 1), (58, 0, 7, 3)], [(61, 0, 0, 1), (62, 0, 0, 1), (63, 1, 0, 1), (64, 0, 0, 1), (65, 1, 0, 2), (67, 0, 0, 3), (70, 1, 0, 1), (71, 0, 7, 3), (74, 0, 0, 1), (75, 0, 0, 1), (76, 1, 0, 1), (77, 0, 0, 1), (78, 1, 0, 2), (80, 0, 0, 3), (83, 0, 332, 3), (86, 0, 0, 1)], [(87, 1, 0, 1), (88, 0, 323, 3), (91, 1, 0, 1), (92, 0, 0, 1), (93, 1, 0, 1), (94, 0, 0, 1), (95, 0, 239, 3), (98, 0, 0, 2), (100, 0, 0, 1), (101, 0, 0, 2), (103, 0, 0, 2), (105, 1, 0, 1), (106, 0, 0, 3), (109, 1, 0, 1), (110, 1, 0, 1), (111, 0, 0, 1)], [(112, 0, 0, 1), (113, 1, 0, 1), (114, 0, 7, 3), (117, 0, 0, 1), (118, 0, 0, 1), (119, 0, 0, 1), (120, 0, 105, 3), (123, 0, 0, 1), (124, 0, 0, 3), (127, 0, 0, 3), (130, 1, 0, 1), (131, 0, 0, 2), (133, 0, 265, 3), (136, 0, 0, 1), (137, 0, 0, 2), (139, 0, 0, 1)], [(140, 0, 0, 2), (142, 0, 0, 2), (144, 1, 0, 1), (145, 0, 7, 3), (148, 0, 0, 1), (149, 0, 0, 1), (150, 0, 0, 3), (153, 1, 0, 1), (154, 0, 37, 3), (157, 0, 0, 2), (159, 0, 0, 1), (160, 0, 0, 2), (162, 0, 0, 1), (163, 0, 0, 3), (166, 1, 0, 1), (167, 0, 37, 3)], [(170, 0, 0, 2), (172, 0, 0, 1), (173, 0, 0, 3), (176, 0, 0, 2), (178, 0, 0, 2), (180, 0, 0, 3), (183, 0, 0, 3), (186, 1, 0, 1), (187, 0, 329, 3), (190, 0, 0, 2), (192, 1, 245, 3), (195, 1, 0, 1), (196, 1, 268, 3), (199, 0, 0, 1), (200, 0, 0, 0)]]
def ph_239 : List (List (Nat × Nat × Nat × Nat)) := [[(0, 1, 0, 1), (1, 0, 7, 3), (4, 1, 0, 2), (6, 0, 0, 1), (7, 1, 0, 1), (8, 1, 0, 1), (9, 0, 7, 3), (12, 1, 0, 2), (14, 1, 0, 1), (15, 0, 0, 1), (16, 1, 0, 1), (17, 0, 0, 1), (18, 0, 0, 0)]]
def ph_240 : List (List (Nat × Nat × Nat × Nat)) := [[(0, 1, 0, 1), (1, 0, 116, 3), (4, 1, 0, 1), (5, 1, 0, 1), (6, 0, 0, 3), (9, 1, 0, 2), (11, 0, 0, 1), (12, 1, 0, 1), (13, 0, 7, 3), (16, 1, 0, 2), (18, 1, 0, 1), (19, 0, 7, 3), (22, 1, 0, 2), (24, 0, 0, 1), (25, 4, 334, 3), (28, 0, 0, 1)], [(29, 2, 0, 3), (32, 0, 0, 1), (33, 0, 0, 1), (34, 1, 0, 1), (35, 0, 7, 3), (38, 1, 0, 2), (40, 0, 0, 1), (41, 1, 0, 2), (43, 0, 0, 1), (44, 1, 0, 1), (45, 0, 0, 1), (46, 1, 0, 1), (47, 0, 0, 1), (48, 1, 0, 1), (49, 1, 0, 1), (50, 1, 0, 1)], [(51, 0, 78, 3), (54, 0, 0, 3), (57, 1, 0, 1), (58, 0, 0, 3), (61, 1, 0, 1), (62, 1, 0, 1), (63, 1, 0, 1), (64, 0, 78, 3), (67, 0, 0, 3), (70, 0, 0, 1), (71, 0, 0, 3), (74, 0, 0, 1), (75, 0, 0, 1), (76, 1, 0, 1), (77, 0, 0, 3), (80, 0, 0, 3)], [(83, 1, 0, 1), (84, 0, 0, 1), (85, 0, 0, 0)]]
def ph_241 : List (List (Nat × Nat × Nat × Nat)) := [[(0, 1, 0, 1), (1, 1, 0, 1), (2, 0, 242, 3), (5, 0, 0, 3), (8, 0, 0, 1), (9, 0, 0, 1), (10, 1, 0, 1), (11, 1, 0, 1), (12, 0, 265, 3), (15, 1, 0, 1), (16, 0, 0, 1), (17, 0, 335, 3), (20, 0, 0, 1), (21, 1, 0, 1), (22, 1, 0, 1), (23, 1, 0, 1)], [(24, 0, 7, 3), (27, 0, 0, 1), (28, 0, 0, 1), (29, 0, 0, 3), (32, 1, 0, 1), (33, 0, 37, 3), (36, 1, 0, 1), (37, 0, 0, 1), (38, 0, 0, 1), (39, 0, 0, 1), (40, 0, 0, 3), (43, 1, 0, 1), (44, 0, 44, 3), (47, 0, 0, 1), (48, 1, 0, 1), (49, 0, 335, 3)], [(52, 0, 0, 1), (53, 1, 0, 1), (54, 0, 0, 1), (55, 0, 0, 1), (56, 1, 0, 1), (57, 0, 44, 3), (60, 0, 0, 1), (61, 1, 0, 1), (62, 0, 335, 3), (65, 0, 0, 1), (66, 0, 0, 1), (67, 0, 0, 1), (68, 1, 0, 1), (69, 0, 37, 3), (72, 1, 0, 1), (73, 0, 0, 1)], [(74, 1, 245, 3), (77, 0, 0, 1), (78, 1, 268, 3), (81, 0, 0, 1), (82, 1, 0, 1), (83, 0, 44, 3), (86, 0, 0, 1), (87, 1, 0, 1), (88, 0, 335, 3), (91, 0, 0, 1), (92, 0, 0, 1), (93, 0, 0, 1), (94, 1, 0, 1), (95, 0, 37, 3), (98, 1, 0, 1), (99, 0, 0, 1)], [(100, 1, 245, 3), (103, 0, 0, 1), (104, 1, 268, 3), (107, 0, 0, 1), (108, 1, 0, 1), (109, 0, 0, 1), (110, 0, 335, 3), (113, 0, 0, 1), (114, 0, 0, 1), (115, 0, 335, 3), (118, 0, 0, 3), (121, 0, 0, 3), (124, 1, 0, 1), (125, 0, 335, 3), (128, 0, 0, 1), (129, 0, 0, 0)]]
def ph_242 : List (List (Nat × Nat × Nat × Nat)) := [[(0, 1, 0, 1), (1, 0, 0, 1), (2, 0, 0, 1), (3, 1, 0, 1), (4, 0, 335, 3), (7, 0, 0, 1), (8, 0, 0, 1), (9, 0, 0, 1), (10, 1, 68, 3), (13, 0, 0, 3), (16, 1, 0, 1), (17, 0, 0, 1), (18, 0, 0, 1), (19, 1, 338, 3), (22, 1, 68, 3), (25, 0, 0, 3)], [(28, 1, 0, 1), (29, 0, 44, 3), (32, 0, 0, 1), (33, 1, 0, 1), (34, 0, 0, 1), (35, 1, 0, 1), (36, 0, 0, 1), (37, 0, 0, 1), (38, 0, 0, 3), (41, 0, 340, 3), (44, 0, 0, 1), (45, 0, 0, 0)]]
def ph_243 : List (List (Nat × Nat × Nat × Nat)) := [[(0, 1, 0, 1), (1, 0, 0, 1), (2, 0, 0, 1), (3, 1, 0, 1), (4, 0, 335, 3), (7, 0, 0, 1), (8, 0, 0, 1), (9, 0, 0, 1), (10, 1, 68, 3), (13, 0, 0, 3), (16, 1, 0, 1), (17, 0, 0, 1), (18, 0, 0, 1), (19, 1, 338, 3), (22, 1, 68, 3), (25, 0, 0, 3)], [(28, 0, 340, 3), (31, 0, 0, 1), (32, 1, 0, 1), (33, 0, 44, 3), (36, 0, 0, 1), (37, 1, 0, 1), (38, 0, 0, 1), (39, 1, 0, 1), (40, 0, 0, 1), (41, 0, 0, 1), (42, 0, 0, 2), (44, 1, 0, 1), (45, 0, 44, 3), (48, 0, 0, 1), (49, 1, 0, 1), (50, 0, 0, 1)], [(51, 1, 0, 1), (52, 0, 0, 1), (53, 1, 0, 1), (54, 0, 0, 1), (55, 0, 0, 2), (57, 0, 0, 1), (58, 0, 0, 0)]]
def ph_244 : List (List (Nat × Nat × Nat × Nat)) := [[(0, 1, 0, 1), (1, 1, 0, 1), (2, 0, 242, 3), (5, 0, 0, 3), (8, 0, 0, 1), (9, 0, 0, 1), (10, 1, 0, 1), (11, 1, 0, 1), (12, 0, 265, 3), (15, 0, 0, 1), (16, 1, 0, 1), (17, 0, 0, 1), (18, 1, 0, 1), (19, 1, 0, 1), (20, 1, 0, 1), (21, 0, 7, 3)], [(24, 0, 0, 1), (25, 0, 0, 1), (26, 0, 0, 3), (29, 1, 0, 1), (30, 0, 37, 3), (33, 1, 0, 1), (34, 0, 0, 1), (35, 0, 0, 1), (36, 0, 0, 1), (37, 0, 0, 3), (40, 1, 0, 1), (41, 1, 0, 1), (42, 0, 335, 3), (45, 0, 0, 3), (48, 2, 0, 3), (51, 0, 0, 1)], [(52, 1, 0, 1), (53, 0, 44, 3), (56, 0, 0, 1), (57, 1, 0, 1), (58, 0, 0, 1), (59, 0, 0, 1), (60, 1, 0, 1), (61, 0, 0, 1), (62, 0, 0, 1), (63, 0, 0, 3), (66, 1, 0, 1), (67, 0, 44, 3), (70, 0, 0, 1), (71, 1, 0, 1), (72, 0, 0, 1), (73, 0, 0, 1)], [(74, 0, 0, 1), (75, 0, 0, 1), (76, 1, 0, 1), (77, 0, 37, 3), (80, 1, 0, 1), (81, 0, 0, 1), (82, 1, 245, 3), (85, 0, 0, 1), (86, 1, 268, 3), (89, 0, 0, 1), (90, 0, 0, 3), (93, 1, 0, 1), (94, 0, 44, 3), (97, 0, 0, 1), (98, 1, 0, 1), (99, 0, 0, 1)], [(100, 0, 0, 1), (101, 0, 0, 1), (102, 0, 0, 1), (103, 1, 0, 1), (104, 0, 37, 3), (107, 1, 0, 1), (108, 0, 0, 1), (109, 1, 245, 3), (112, 0, 0, 1), (113, 1, 268, 3), (116, 0, 0, 1), (117, 0, 0, 3), (120, 1, 0, 1), (121, 0, 0, 1), (122, 0, 0, 1), (123, 0, 0, 1)], [(124, 0, 0, 3), (127, 0, 0, 3), (130, 0, 0, 3), (133, 1, 0, 1), (134, 1, 0, 1), (135, 0, 335, 3), (138, 0, 0, 3), (141, 1, 0, 1), (142, 0, 0, 1), (143, 0, 0, 1), (144, 0, 0, 3), (147, 0, 0, 1), (148, 0, 0, 1), (149, 0, 0, 0)]]
def ph_245 : List (List (Nat × Nat × Nat × Nat)) := [[(0, 1, 0, 1), (1, 0, 0, 1), (2, 0, 0, 1), (3, 1, 103, 3), (6, 1, 68, 3), (9, 0, 0, 1), (10, 0, 0, 0)]]
def ph_246 : List (List (Nat × Nat × Nat × Nat)) := [[(0, 1, 0, 1), (1, 1, 342, 3), (4, 0, 0, 3), (7, 1, 0, 1), (8, 0, 0, 1), (9, 0, 263, 3), (12, 1, 76, 3), (15, 1, 68, 3), (18, 0, 0, 3), (21, 1, 0, 1), (22, 0, 0, 3), (25, 1, 0, 1), (26, 1, 0, 2), (28, 0, 0, 3), (31, 0, 0, 1), (32, 0, 0, 1)], [(33, 1, 0, 1), (34, 0, 0, 3), (37, 1, 0, 1), (38, 0, 0, 3), (41, 1, 0, 2), (43, 0, 0, 1), (44, 1, 0, 1), (45, 0, 47, 3), (48, 1, 0, 1), (49, 1, 0, 1), (50, 0, 0, 1), (51, 1, 0, 1), (52, 0, 50, 3), (55, 1, 0, 1), (56, 1, 0, 1), (57, 0, 0, 3)], [(60, 0, 0, 1), (61, 0, 0, 3), (64, 1, 0, 1), (65, 0, 0, 1), (66, 0, 0, 1), (67, 0, 0, 2), (69, 0, 0, 2), (71, 1, 0, 2), (73, 0, 0, 3), (76, 1, 0, 1), (77, 0, 53, 3), (80, 1, 0, 2), (82, 1, 0, 1), (83, 0, 0, 1), (84, 0, 0, 2), (86, 0, 0, 1)], [(87, 0, 0, 1), (88, 0, 0, 1), (89, 0, 0, 3), (92, 0, 0, 3), (95, 0, 0, 1), (96, 0, 0, 1), (97, 0, 0, 0)]]
def ph_247 : List (List (Nat × Nat × Nat × Nat)) := [[(0, 1, 0, 1), (1, 0, 0, 3), (4, 1, 0, 1), (5, 0, 0, 1), (6, 0, 0, 3), (9, 1, 0, 1), (10, 0, 0, 1), (11, 0, 0, 3), (14, 1, 0, 1), (15, 0, 0, 1), (16, 0, 0, 3), (19, 1, 0, 1), (20, 0, 0, 1), (21, 0, 0, 3), (24, 1, 0, 1), (25, 0, 0, 3)], [(28, 0, 0, 1), (29, 0, 0, 3), (32, 0, 0, 1), (33, 0, 0, 3), (36, 1, 0, 1), (37, 0, 0, 1), (38, 0, 0, 0)]]
def ph_248 : List (List (Nat × Nat × Nat × Nat)) := [[(0, 1, 0, 1), (1, 1, 342, 3), (4, 0, 0, 3), (7, 0, 0, 1), (8, 0, 0, 1), (9, 1, 0, 1), (10, 0, 47, 3), (13, 1, 0, 1), (14, 0, 0, 1), (15, 0, 0, 3), (18, 1, 0, 2), (20, 0, 0, 1), (21, 1, 0, 1), (22, 0, 0, 1), (23, 0, 0, 1), (24, 1, 0, 1)], [(25, 0, 50, 3), (28, 1, 0, 1), (29, 0, 0, 1), (30, 0, 0, 1), (31, 0, 0, 1), (32, 0, 0, 1), (33, 1, 68, 3), (36, 0, 0, 3), (39, 1, 0, 2), (41, 0, 0, 1), (42, 1, 0, 1), (43, 0, 53, 3), (46, 1, 0, 2), (48, 1, 0, 1), (49, 0, 0, 1), (50, 1, 0, 1)], [(51, 0, 0, 1), (52, 1, 0, 1), (53, 0, 47, 3), (56, 1, 0, 1), (57, 0, 0, 1), (58, 1, 0, 1), (59, 1, 345, 3), (62, 0, 0, 1), (63, 0, 0, 1), (64, 0, 0, 1), (65, 0, 0, 0)]]
def ph_249 : List (List (Nat × Nat × Nat × Nat)) := [[(0, 1, 0, 1), (1, 0, 47, 3), (4, 1, 0, 1), (5, 0, 0, 1), (6, 0, 0, 3), (9, 1, 0, 2), (11, 0, 0, 3), (14, 1, 0, 1), (15, 0, 47, 3), (18, 1, 0, 1), (19, 0, 0, 1), (20, 1, 0, 1), (21, 0, 0, 3), (24, 1, 0, 2), (26, 0, 0, 3), (29, 0, 0, 1)], [(30, 0, 0, 1), (31, 0, 0, 0)]]
def ph_250 : List (List (Nat × Nat × Nat × Nat)) := [[(0, 1, 0, 1), (1, 1, 342, 3), (4, 0, 0, 3), (7, 1, 0, 1), (8, 0, 0, 1), (9, 0, 0, 1), (10, 1, 76, 3), (13, 1, 68, 3), (16, 0, 0, 3), (19, 0, 0, 1), (20, 0, 0, 1), (21, 1, 0, 1), (22, 1, 0, 1), (23, 1, 0, 1), (24, 0, 348, 3), (27, 0, 0, 2)], [(29, 0, 0, 2), (31, 0, 0, 3), (34, 0, 0, 2), (36, 0, 0, 1), (37, 1, 0, 1), (38, 0, 0, 1), (39, 0, 0, 1), (40, 1, 0, 1), (41, 0, 50, 3), (44, 1, 0, 1), (45, 0, 0, 1), (46, 0, 0, 1), (47, 0, 0, 1), (48, 0, 0, 1), (49, 1, 68, 3), (52, 0, 0, 3)], [(55, 1, 0, 1), (56, 0, 53, 3), (59, 1, 0, 2), (61, 1, 0, 1), (62, 0, 0, 1), (63, 1, 0, 1), (64, 0, 0, 1), (65, 0, 0, 1), (66, 0, 0, 3), (69, 1, 0, 2), (71, 0, 0, 1), (72, 0, 0, 0)]]
def ph_251 : List (List (Nat × Nat × Nat × Nat)) := [[(0, 1, 0, 1), (1, 1, 0, 1), (2, 0, 100, 3), (5, 0, 0, 3), (8, 1, 0, 1), (9, 1, 342, 3), (12, 0, 0, 3), (15, 0, 0, 2), (17, 0, 0, 1), (18, 0, 0, 1), (19, 1, 351, 3), (22, 1, 68, 3), (25, 0, 0, 3), (28, 0, 0, 1), (29, 0, 0, 1), (30, 1, 0, 1)], [(31, 1, 0, 1), (32, 0, 0, 1), (33, 0, 348, 3), (36, 0, 0, 2), (38, 0, 0, 2), (40, 0, 0, 3), (43, 0, 0, 2), (45, 0, 0, 1), (46, 0, 0, 1), (47, 0, 0, 2), (49, 0, 0, 1), (50, 0, 0, 2), (52, 0, 0, 2), (54, 0, 0, 2), (56, 0, 0, 3), (59, 1, 0, 1)], [(60, 0, 0, 1), (61, 0, 0, 2), (63, 0, 0, 1), (64, 0, 0, 1), (65, 0, 0, 2), (67, 0, 0, 2), (69, 0, 0, 1), (70, 1, 0, 1), (71, 0, 50, 3), (74, 1, 0, 1), (75, 0, 0, 1), (76, 0, 0, 1), (77, 0, 0, 1), (78, 0, 0, 1), (79, 1, 68, 3), (82, 0, 0, 3)], [(85, 1, 0, 2), (87, 0, 0, 1), (88, 0, 0, 2), (90, 1, 0, 1), (91, 0, 0, 1), (92, 1, 0, 1), (93, 1, 0, 1), (94, 0, 53, 3), (97, 1, 0, 2), (99, 1, 0, 1), (100, 0, 0, 1), (101, 0, 0, 2), (103, 0, 0, 1), (104, 0, 0, 1), (105, 0, 0, 1), (106, 0, 353, 3)], [(109, 0, 0, 3), (112, 0, 0, 1), (113, 0, 0, 3), (116, 0, 0, 1), (117, 0, 0, 1), (118, 0, 0, 2), (120, 0, 0, 3), (123, 0, 0, 3), (126, 0, 0, 2), (128, 0, 0, 1), (129, 0, 0, 0)]]
def ph_252 : List (List (Nat × Nat × Nat × Nat)) := [[(0, 1, 0, 1), (1, 1, 342, 3), (4, 0, 0, 3), (7, 1, 0, 1), (8, 0, 0, 1), (9, 0, 0, 1), (10, 1, 103, 3), (13, 1, 68, 3), (16, 0, 0, 3), (19, 1, 0, 1), (20, 0, 0, 3), (23, 1, 0, 1), (24, 1, 0, 1), (25, 0, 100, 3), (28, 0, 0, 3), (31, 1, 0, 1)], [(32, 0, 0, 1), (33, 0, 0, 3), (36, 1, 0, 1), (37, 1, 0, 1), (38, 0, 242, 3), (41, 0, 0, 3), (44, 1, 0, 1), (45, 0, 0, 1), (46, 0, 0, 3), (49, 1, 0, 1), (50, 1, 342, 3), (53, 0, 0, 3), (56, 0, 0, 1), (57, 0, 0, 1), (58, 1, 0, 1), (59, 0, 0, 1)], [(60, 0, 0, 3), (63, 1, 0, 1), (64, 0, 47, 3), (67, 1, 0, 1), (68, 0, 0, 1), (69, 0, 0, 3), (72, 0, 0, 1), (73, 0, 0, 3), (76, 0, 0, 1), (77, 0, 0, 2), (79, 1, 0, 1), (80, 0, 56, 3), (83, 1, 0, 1), (84, 1, 0, 1), (85, 0, 0, 1), (86, 0, 0, 3)], [(89, 0, 0, 2), (91, 0, 0, 3), (94, 0, 0, 1), (95, 0, 0, 3), (98, 1, 0, 1), (99, 0, 0, 1), (100, 1, 0, 1), (101, 0, 59, 3), (104, 1, 0, 1), (105, 0, 0, 2), (107, 0, 0, 3), (110, 1, 0, 1), (111, 0, 47, 3), (114, 1, 0, 1), (115, 0, 0, 1), (116, 0, 0, 3)], [(119, 1, 0, 1), (120, 0, 0, 1), (121, 1, 0, 1), (122, 0, 62, 3), (125, 1, 0, 1), (126, 0, 0, 2), (128, 0, 0, 3), (131, 1, 0, 1), (132, 0, 50, 3), (135, 1, 0, 1), (136, 0, 0, 1), (137, 0, 0, 3), (140, 0, 0, 1), (141, 0, 0, 1), (142, 0, 0, 1), (143, 0, 0, 1)], [(144, 0, 0, 0)]]
def ph_253 : List (List (Nat × Nat × Nat × Nat)) := [[(0, 1, 0, 1), (1, 0, 59, 3), (4, 1, 0, 1), (5, 0, 0, 1), (6, 1, 0, 1), (7, 1, 0, 1), (8, 0, 0, 1), (9, 0, 356, 3), (12, 1, 0, 1), (13, 1, 0, 1), (14, 0, 359, 3), (17, 1, 0, 1), (18, 0, 56, 3), (21, 1, 0, 1), (22, 0, 0, 1), (23, 0, 0, 3)], [(26, 1, 0, 1), (27, 1, 0, 1), (28, 0, 100, 3), (31, 0, 0, 3), (34, 1, 0, 1), (35, 1, 0, 1), (36, 1, 0, 1), (37, 0, 0, 1), (38, 0, 72, 3), (41, 0, 356, 3), (44, 1, 0, 1), (45, 1, 0, 1), (46, 1, 0, 1), (47, 0, 0, 1), (48, 0, 72, 3), (51, 0, 362, 3)], [(54, 0, 0, 3), (57, 1, 0, 1), (58, 0, 56, 3), (61, 1, 0, 1), (62, 0, 0, 1), (63, 0, 0, 1), (64, 0, 0, 3), (67, 1, 0, 1), (68, 1, 0, 1), (69, 0, 242, 3), (72, 0, 0, 3), (75, 1, 0, 1), (76, 1, 0, 2), (78, 0, 356, 3), (81, 1, 0, 1), (82, 1, 0, 1)], [(83, 0, 7, 3), (86, 2, 0, 3), (89, 0, 0, 1), (90, 1, 0, 1), (91, 0, 0, 1), (92, 0, 0, 1), (93, 0, 0, 1), (94, 0, 0, 1), (95, 0, 0, 1), (96, 0, 362, 3), (99, 0, 0, 1), (100, 0, 0, 0)]]
def ph_254 : List (List (Nat × Nat × Nat × Nat)) := [[(0, 1, 0, 1), (1, 1, 0, 1), (2, 0, 0, 3), (5, 1, 0, 1), (6, 0, 0, 3), (9, 1, 0, 1), (10, 1, 0, 2), (12, 0, 0, 3), (15, 1, 0, 1), (16, 0, 0, 1), (17, 0, 0, 3), (20, 1, 0, 1), (21, 0, 0, 1), (22, 0, 0, 3), (25, 1, 0, 1), (26, 0, 0, 1)], [(27, 0, 0, 3), (30, 0, 0, 1), (31, 0, 0, 3), (34, 0, 0, 1), (35, 0, 0, 1), (36, 0, 0, 0)]]
def ph_255 : List (List (Nat × Nat × Nat × Nat)) := [[(0, 1, 0, 1), (1, 1, 342, 3), (4, 0, 0, 3), (7, 1, 0, 1), (8, 0, 0, 1), (9, 0, 0, 1), (10, 1, 365, 3), (13, 1, 68, 3), (16, 0, 0, 3), (19, 1, 0, 1), (20, 0, 0, 1), (21, 1, 367, 3), (24, 1, 369, 3), (27, 1, 68, 3), (30, 0, 0, 3), (33, 0, 0, 1)], [(34, 0, 0, 1), (35, 1, 0, 1), (36, 1, 0, 1), (37, 0, 371, 3), (40, 1, 0, 1), (41, 0, 56, 3), (44, 1, 0, 1), (45, 0, 0, 1), (46, 0, 0, 1), (47, 0, 0, 3), (50, 0, 0, 1), (51, 0, 0, 3), (54, 0, 0, 1), (55, 1, 0, 1), (56, 1, 0, 1), (57, 0, 0, 3)], [(60, 1, 0, 1), (61, 0, 356, 3), (64, 0, 0, 3), (67, 1, 0, 2), (69, 0, 0, 1), (70, 1, 0, 1), (71, 1, 0, 2), (73, 0, 0, 3), (76, 1, 0, 1), (77, 0, 0, 3), (80, 1, 0, 1), (81, 0, 59, 3), (84, 1, 0, 1), (85, 0, 0, 1), (86, 1, 0, 1), (87, 1, 0, 2)], [(89, 0, 0, 1), (90, 0, 0, 3), (93, 1, 0, 1), (94, 0, 62, 3), (97, 1, 0, 1), (98, 0, 0, 1), (99, 0, 0, 3), (102, 1, 0, 2), (104, 0, 0, 1), (105, 1, 0, 1), (106, 0, 0, 3), (109, 1, 0, 1), (110, 0, 356, 3), (113, 1, 0, 1), (114, 1, 374, 3), (117, 0, 0, 3)], [(120, 1, 0, 1), (121, 0, 359, 3), (124, 0, 0, 3), (127, 1, 0, 2), (129, 0, 0, 1), (130, 0, 0, 0)]]
def ph_256 : List (List (Nat × Nat × Nat × Nat)) := [[(0, 1, 0, 1), (1, 0, 377, 3), (4, 1, 0, 2), (6, 0, 0, 3), (9, 1, 0, 1), (10, 0, 65, 3), (13, 1, 0, 1), (14, 0, 377, 3), (17, 1, 0, 1), (18, 0, 0, 1), (19, 1, 0, 1), (20, 0, 0, 1), (21, 0, 377, 3), (24, 0, 0, 1), (25, 0, 0, 1), (26, 0, 377, 3)], [(29, 0, 0, 1), (30, 0, 0, 0)]]
def ph_257 : List (List (Nat × Nat × Nat × Nat)) := [[(0, 1, 0, 1), (1, 1, 0, 2), (3, 0, 380, 3), (6, 1, 0, 1), (7, 1, 0, 1), (8, 0, 362, 3), (11, 0, 0, 1), (12, 0, 0, 1), (13, 0, 0, 0)]]
def ph_258 : List (List (Nat × Nat × Nat × Nat)) := [[(0, 1, 0, 1), (1, 1, 0, 2), (3, 0, 380, 3), (6, 1, 0, 1), (7, 1, 0, 1), (8, 0, 383, 3), (11, 0, 0, 1), (12, 0, 0, 1), (13, 0, 0, 1), (14, 0, 0, 0)]]
def ph_259 : List (List (Nat × Nat × Nat × Nat)) := [[(0, 1, 0, 1), (1, 0, 356, 3), (4, 0, 0, 40), (44, 1, 0, 1), (45, 1, 0, 1), (46, 0, 386, 3), (49, 0, 0, 1), (50, 1, 0, 1), (51, 1, 0, 2), (53, 0, 380, 3), (56, 1, 0, 1), (57, 1, 0, 1), (58, 0, 386, 3), (61, 1, 0, 1), (62, 0, 359, 3), (65, 0, 0, 1)], [(66, 0, 0, 1), (67, 1, 0, 1), (68, 1, 0, 2), (70, 0, 380, 3), (73, 1, 0, 1), (74, 0, 362, 3), (77, 1, 0, 1), (78, 0, 0, 1), (79, 0, 0, 1), (80, 1, 0, 1), (81, 1, 0, 1), (82, 0, 383, 3), (85, 0, 0, 1), (86, 0, 0, 0)]]
def ph_260 : List (List (Nat × Nat × Nat × Nat)) := [[(0, 1, 0, 1), (1, 1, 0, 2), (3, 0, 380, 3), (6, 1, 0, 1), (7, 1, 0, 1), (8, 0, 389, 3), (11, 0, 0, 1), (12, 0, 0, 1), (13, 0, 0, 1), (14, 0, 0, 0)]]
def ph_261 : List (List (Nat × Nat × Nat × Nat)) := [[(0, 1, 0, 1), (1, 0, 356, 3), (4, 0, 0, 44), (48, 1, 0, 1), (49, 1, 0, 2), (51, 0, 380, 3), (54, 1, 0, 1), (55, 1, 0, 1), (56, 0, 392, 3), (59, 0, 0, 1), (60, 0, 0, 1), (61, 0, 0, 1), (62, 1, 0, 1), (63, 1, 0, 2), (65, 0, 380, 3), (68, 1, 0, 1)], [(69, 1, 0, 1), (70, 0, 392, 3), (73, 1, 0, 1), (74, 0, 362, 3), (77, 0, 0, 1), (78, 0, 0, 1), (79, 1, 0, 1), (80, 1, 0, 2), (82, 0, 380, 3), (85, 0, 0, 1), (86, 1, 0, 1), (87, 1, 0, 1), (88, 0, 392, 3), (91, 0, 0, 1), (92, 0, 0, 1), (93, 1, 0, 1)], [(94, 1, 0, 2), (96, 0, 380, 3), (99, 1, 0, 1), (100, 1, 0, 1), (101, 0, 389, 3), (104, 1, 0, 1), (105, 0, 359, 3), (108, 0, 0, 1), (109, 0, 0, 1), (110, 1, 0, 1), (111, 1, 0, 1), (112, 0, 392, 3), (115, 0, 0, 1), (116, 0, 0, 0)]]
def ph_262 : List (List (Nat × Nat × Nat × Nat)) := [[(0, 1, 0, 1), (1, 1, 0, 2), (3, 0, 380, 3), (6, 1, 0, 1), (7, 1, 0, 1), (8, 0, 362, 3), (11, 1, 0, 1), (12, 0, 359, 3), (15, 0, 0, 3), (18, 0, 0, 1), (19, 0, 0, 3), (22, 0, 0, 1), (23, 0, 395, 3), (26, 1, 0, 1), (27, 0, 395, 3), (30, 0, 0, 3)], [(33, 0, 0, 1), (34, 0, 0, 3), (37, 1, 0, 1), (38, 1, 0, 1), (39, 0, 362, 3), (42, 1, 0, 1), (43, 0, 359, 3), (46, 0, 0, 1), (47, 0, 0, 1), (48, 0, 0, 1), (49, 0, 0, 0)]]
def ph_263 : List (List (Nat × Nat × Nat × Nat)) := [[(0, 1, 0, 1), (1, 0, 356, 3), (4, 0, 0, 28), (32, 1, 0, 1), (33, 1, 0, 2), (35, 0, 380, 3), (38, 1, 0, 1), (39, 1, 0, 1), (40, 0, 0, 1), (41, 0, 0, 1), (42, 0, 398, 3), (45, 0, 0, 1), (46, 1, 0, 1), (47, 1, 0, 2), (49, 0, 380, 3), (52, 1, 0, 1)], [(53, 1, 0, 1), (54, 0, 362, 3), (57, 0, 0, 1), (58, 0, 0, 1), (59, 1, 0, 1), (60, 1, 0, 1), (61, 0, 398, 3), (64, 0, 0, 1), (65, 0, 0, 0)]]
def ph_264 : List (List (Nat × Nat × Nat × Nat)) := [[(0, 1, 0, 1), (1, 1, 0, 2), (3, 0, 380, 3), (6, 1, 0, 1), (7, 1, 0, 1), (8, 0, 401, 3), (11, 1, 0, 1), (12, 0, 359, 3), (15, 0, 0, 1), (16, 0, 0, 1), (17, 0, 0, 0)]]
def ph_265 : List (List (Nat × Nat × Nat × Nat)) := [[(0, 1, 0, 1), (1, 0, 356, 3), (4, 0, 0, 40), (44, 1, 0, 1), (45, 1, 0, 2), (47, 0, 380, 3), (50, 1, 0, 1), (51, 1, 0, 1), (52, 0, 404, 3), (55, 1, 0, 1), (56, 1, 0, 1), (57, 1, 0, 1), (58, 1, 0, 1), (59, 0, 359, 3), (62, 0, 407, 3), (65, 0, 0, 1)], [(66, 0, 0, 1), (67, 1, 0, 1), (68, 1, 0, 2), (70, 0, 380, 3), (73, 1, 0, 1), (74, 1, 0, 1), (75, 0, 404, 3), (78, 0, 0, 1), (79, 0, 0, 1), (80, 0, 0, 1), (81, 1, 0, 1), (82, 1, 0, 2), (84, 0, 380, 3), (87, 1, 0, 1), (88, 1, 0, 1), (89, 0, 401, 3)], [(92, 1, 0, 1), (93, 1, 0, 1), (94, 1, 0, 1), (95, 1, 0, 1), (96, 0, 359, 3), (99, 0, 407, 3), (102, 0, 0, 1), (103, 0, 0, 1), (104, 1, 0, 1), (105, 1, 0, 1), (106, 0, 404, 3), (109, 0, 0, 1), (110, 0, 0, 0)]]
def ph_266 : List (List (Nat × Nat × Nat × Nat)) := [[(0, 1, 0, 1), (1, 0, 0, 1), (2, 0, 377, 3), (5, 1, 0, 1), (6, 1, 342, 3), (9, 0, 0, 3), (12, 1, 0, 1), (13, 0, 0, 1), (14, 0, 0, 1), (15, 1, 103, 3), (18, 1, 68, 3), (21, 0, 0, 3), (24, 0, 0, 1), (25, 0, 0, 1), (26, 1, 0, 1), (27, 1, 0, 1)], [(28, 0, 371, 3), (31, 1, 0, 1), (32, 0, 356, 3), (35, 0, 0, 3), (38, 0, 0, 1), (39, 0, 0, 1), (40, 1, 0, 1), (41, 0, 0, 1), (42, 0, 395, 3), (45, 1, 0, 1), (46, 0, 0, 3), (49, 1, 0, 1), (50, 1, 0, 1), (51, 0, 389, 3), (54, 0, 0, 3), (57, 1, 0, 1)], [(58, 0, 0, 1), (59, 0, 0, 3), (62, 1, 0, 1), (63, 1, 0, 1), (64, 0, 401, 3), (67, 0, 0, 3), (70, 1, 0, 1), (71, 0, 0, 1), (72, 0, 0, 3), (75, 1, 0, 1), (76, 1, 0, 1), (77, 0, 407, 3), (80, 0, 0, 3), (83, 1, 0, 1), (84, 1, 0, 1), (85, 0, 410, 3)], [(88, 0, 0, 2), (90, 1, 0, 1), (91, 0, 395, 3), (94, 0, 0, 3), (97, 1, 0, 2), (99, 0, 0, 3), (102, 0, 0, 2), (104, 0, 0, 1), (105, 0, 0, 0)]]
def ph_267 : List (List (Nat × Nat × Nat × Nat)) := [[(0, 1, 0, 1), (1, 0, 0, 1), (2, 0, 0, 1), (3, 1, 0, 1), (4, 0, 377, 3), (7, 0, 0, 1), (8, 0, 0, 1), (9, 0, 0, 1), (10, 1, 68, 3), (13, 0, 0, 3), (16, 1, 0, 1), (17, 0, 65, 3), (20, 1, 0, 1), (21, 0, 0, 1), (22, 0, 0, 3), (25, 1, 0, 2)], [(27, 0, 0, 1), (28, 0, 0, 0)]]
def ph_268 : List (List (Nat × Nat × Nat × Nat)) := [[(0, 1, 0, 1), (1, 0, 0, 59), (60, 1, 0, 1), (61, 0, 7, 3), (64, 0, 0, 1), (65, 0, 0, 1), (66, 0, 0, 1), (67, 1, 0, 1), (68, 0, 116, 3), (71, 0, 0, 1), (72, 1, 0, 1), (73, 0, 7, 3), (76, 0, 0, 1), (77, 0, 0, 1), (78, 0, 0, 1), (79, 1, 0, 1)], [(80, 0, 7, 3), (83, 0, 0, 1), (84, 0, 0, 1), (85, 0, 0, 1), (86, 1, 0, 1), (87, 0, 7, 3), (90, 0, 0, 1), (91, 0, 0, 1), (92, 0, 0, 1), (93, 1, 0, 1), (94, 0, 7, 3), (97, 0, 0, 1), (98, 0, 0, 1), (99, 0, 0, 1), (100, 1, 0, 1), (101, 0, 7, 3)], [(104, 1, 0, 2), (106, 0, 0, 1), (107, 0, 0, 1), (108, 1, 0, 1), (109, 0, 335, 3), (112, 0, 0, 1), (113, 1, 0, 1), (114, 0, 139, 3), (117, 0, 0, 1), (118, 1, 0, 1), (119, 0, 377, 3), (122, 0, 0, 1), (123, 1, 0, 1), (124, 0, 7, 3), (127, 0, 0, 1), (128, 0, 0, 1)], [(129, 0, 0, 1), (130, 0, 0, 1), (131, 0, 0, 1), (132, 0, 0, 0)]]
def ph_269 : List (List (Nat × Nat × Nat × Nat)) := [[(0, 0, 0, 1), (1, 1, 0, 1), (2, 1, 0, 1), (3, 2, 0, 3), (6, 0, 0, 3), (9, 1, 0, 1), (10, 0, 13, 3), (13, 1, 0, 1), (14, 1, 0, 1), (15, 0, 7, 3), (18, 1, 0, 1), (19, 0, 0, 1), (20, 0, 0, 1), (21, 0, 0, 3), (24, 0, 0, 3), (27, 1, 0, 1)], [(28, 0, 0, 1), (29, 0, 413, 3), (32, 0, 0, 1), (33, 0, 0, 1), (34, 0, 0, 0)]]
def ph_270 : List (List (Nat × Nat × Nat × Nat)) := [[(0, 1, 0, 1), (1, 0, 413, 3), (4, 0, 0, 3), (7, 1, 0, 2), (9, 0, 0, 1), (10, 0, 0, 1), (11, 1, 0, 1), (12, 1, 0, 1), (13, 2, 0, 3), (16, 0, 0, 3), (19, 1, 0, 1), (20, 0, 7, 3), (23, 1, 0, 1), (24, 1, 0, 1), (25, 0, 13, 3), (28, 1, 0, 1)], [(29, 0, 0, 1), (30, 0, 0, 1), (31, 0, 0, 3), (34, 0, 0, 3), (37, 0, 0, 1), (38, 0, 0, 1), (39, 0, 0, 0)]]
def ph_271 : List (List (Nat × Nat × Nat × Nat)) := [[(0, 1, 0, 1), (1, 1, 0, 1), (2, 0, 0, 1), (3, 0, 0, 1), (4, 4, 265, 3), (7, 0, 0, 1), (8, 0, 0, 1), (9, 1, 0, 1), (10, 1, 0, 1), (11, 4, 266, 3), (14, 0, 0, 1), (15, 1, 0, 1), (16, 0, 0, 1), (17, 0, 0, 1), (18, 4, 266, 3), (21, 0, 0, 1)], [(22, 0, 0, 1), (23, 1, 0, 1), (24, 1, 0, 1), (25, 1, 0, 1), (26, 0, 0, 1), (27, 0, 0, 1), (28, 0, 0, 1), (29, 4, 267, 3), (32, 0, 0, 1), (33, 1, 0, 1), (34, 1, 0, 1), (35, 1, 0, 1), (36, 1, 0, 2), (38, 0, 0, 1), (39, 0, 0, 1), (40, 1, 0, 1)], [(41, 1, 0, 1), (42, 1, 0, 1), (43, 1, 0, 2), (45, 0, 0, 1), (46, 0, 0, 1), (47, 1, 0, 1), (48, 1, 0, 1), (49, 1, 0, 2), (51, 0, 0, 1), (52, 0, 0, 1), (53, 0, 0, 0)]]
def ph_272 : List (List (Nat × Nat × Nat × Nat)) := [[(0, 1, 0, 1), (1, 1, 0, 1), (2, 0, 0, 1), (3, 0, 0, 3), (6, 1, 0, 1), (7, 0, 0, 3), (10, 1, 0, 1), (11, 0, 0, 1), (12, 0, 0, 0)]]
def ph_273 : List (List (Nat × Nat × Nat × Nat)) := [[(0, 1, 0, 1), (1, 1, 0, 1), (2, 0, 0, 1), (3, 0, 0, 3), (6, 1, 0, 1), (7, 0, 0, 3), (10, 1, 0, 1), (11, 0, 0, 1), (12, 0, 0, 0)]]
def ph_274 : List (List (Nat × Nat × Nat × Nat)) := [[(0, 0, 7, 3), (3, 0, 0, 1), (4, 2, 9, 3), (7, 1, 0, 1), (8, 0, 10, 3), (11, 0, 0, 1), (12, 2, 12, 3), (15, 1, 0, 1), (16, 0, 0, 1), (17, 1, 0, 1), (18, 1, 0, 1), (19, 1, 0, 1), (20, 0, 0, 1), (21, 1, 0, 2), (23, 0, 0, 1), (24, 0, 0, 3)], [(27, 1, 0, 1), (28, 1, 0, 1), (29, 0, 0, 1), (30, 1, 0, 2), (32, 0, 0, 1), (33, 0, 0, 191), (224, 1, 0, 1), (225, 1, 0, 1), (226, 1, 0, 1), (227, 0, 0, 1), (228, 0, 0, 1), (229, 0, 0, 1), (230, 0, 13, 3), (233, 1, 0, 1), (234, 1, 0, 1), (235, 1, 0, 1)], [(236, 0, 0, 1), (237, 0, 0, 1), (238, 0, 0, 1), (239, 0, 17, 3), (242, 0, 0, 3), (245, 0, 0, 1), (246, 0, 0, 1), (247, 1, 0, 1), (248, 0, 18, 3), (251, 1, 0, 1), (252, 0, 22, 3), (255, 0, 0, 3), (258, 0, 0, 1), (259, 0, 0, 1), (260, 1, 0, 1), (261, 1, 0, 1)], [(262, 1, 0, 1), (263, 0, 0, 1), (264, 0, 0, 1), (265, 0, 0, 1), (266, 1, 0, 1), (267, 1, 0, 1), (268, 0, 0, 1), (269, 0, 0, 1), (270, 0, 0, 1), (271, 1, 0, 1), (272, 1, 0, 1), (273, 0, 0, 1), (274, 0, 0, 1), (275, 0, 0, 1), (276, 1, 0, 1), (277, 1, 0, 1)], [(278, 0, 0, 1), (279, 0, 0, 1), (280, 0, 0, 1), (281, 1, 0, 1), (282, 1, 0, 1), (283, 0, 0, 1), (284, 0, 0, 1), (285, 0, 0, 1), (286, 0, 0, 3), (289, 0, 0, 1), (290, 0, 0, 3), (293, 0, 0, 1), (294, 0, 23, 3), (297, 1, 0, 1), (298, 1, 0, 1), (299, 1, 0, 1)], [(300, 0, 0, 1), (301, 0, 0, 1), (302, 0, 0, 1), (303, 1, 0, 1), (304, 1, 0, 1), (305, 0, 0, 1), (306, 0, 0, 1), (307, 0, 0, 1), (308, 1, 0, 1), (309, 1, 0, 1), (310, 0, 0, 1), (311, 0, 0, 1), (312, 0, 0, 1), (313, 1, 0, 1), (314, 1, 0, 1), (315, 0, 0, 1)], [(316, 0, 0, 1), (317, 0, 0, 1), (318, 1, 0, 1), (319, 1, 0, 1), (320, 0, 0, 1), (321, 0, 0, 1), (322, 0, 0, 1), (323, 0, 0, 3), (326, 0, 0, 1), (327, 0, 0, 3), (330, 0, 0, 1), (331, 0, 27, 3), (334, 0, 0, 3), (337, 0, 0, 1), (338, 0, 0, 1), (339, 1, 0, 1)], [(340, 1, 0, 1), (341, 1, 0, 1), (342, 0, 0, 1), (343, 0, 0, 1), (344, 0, 0, 1), (345, 0, 28, 3), (348, 1, 0, 1), (349, 1, 0, 1), (350, 1, 0, 1), (351, 0, 0, 1), (352, 0, 0, 1), (353, 0, 0, 1), (354, 0, 31, 3), (357, 0, 0, 3), (360, 0, 0, 1), (361, 0, 0, 1)], [(362, 1, 0, 1), (363, 1, 0, 1), (364, 1, 0, 1), (365, 0, 0, 1), (366, 0, 0, 1), (367, 0, 0, 1), (368, 1, 0, 1), (369, 1, 0, 1), (370, 0, 0, 1), (371, 0, 0, 1), (372, 0, 0, 1), (373, 0, 32, 3), (376, 1, 0, 1), (377, 1, 0, 1), (378, 1, 0, 1), (379, 0, 0, 1)], [(380, 0, 0, 1), (381, 0, 0, 1), (382, 1, 0, 1), (383, 1, 0, 1), (384, 0, 0, 1), (385, 0, 0, 1), (386, 0, 0, 1), (387, 0, 36, 3), (390, 0, 0, 3), (393, 0, 0, 1), (394, 0, 0, 1), (395, 1, 0, 1), (396, 1, 0, 1), (397, 1, 0, 1), (398, 0, 0, 1), (399, 0, 0, 1)], [(400, 0, 0, 1), (401, 0, 37, 3), (404, 1, 0, 1), (405, 1, 0, 1), (406, 1, 0, 1), (407, 0, 0, 1), (408, 0, 0, 1), (409, 0, 0, 1), (410, 0, 40, 3), (413, 0, 0, 3), (416, 0, 0, 1), (417, 0, 0, 1), (418, 1, 0, 1), (419, 1, 0, 1), (420, 1, 0, 1), (421, 0, 0, 1)], [(422, 0, 0, 1), (423, 0, 0, 1), (424, 1, 0, 1), (425, 1, 0, 1), (426, 0, 0, 1), (427, 0, 0, 1), (428, 0, 0, 1), (429, 0, 41, 3), (432, 1, 0, 1), (433, 1, 0, 1), (434, 1, 0, 1), (435, 0, 0, 1), (436, 0, 0, 1), (437, 0, 0, 1), (438, 1, 0, 1), (439, 1, 0, 1)], [(440, 0, 0, 1), (441, 0, 0, 1), (442, 0, 0, 1), (443, 0, 44, 3), (446, 0, 0, 3), (449, 0, 0, 1), (450, 0, 0, 1), (451, 1, 0, 1), (452, 1, 0, 1), (453, 1, 0, 1), (454, 0, 0, 1), (455, 0, 0, 1), (456, 0, 0, 1), (457, 0, 45, 3), (460, 1, 0, 1), (461, 1, 0, 1)], [(462, 1, 0, 1), (463, 0, 0, 1), (464, 0, 0, 1), (465, 0, 0, 1), (466, 0, 48, 3), (469, 0, 0, 3), (472, 0, 0, 1), (473, 0, 0, 1), (474, 1, 0, 1), (475, 1, 0, 1), (476, 1, 0, 1), (477, 0, 0, 1), (478, 0, 0, 1), (479, 0, 0, 1), (480, 1, 0, 1), (481, 1, 0, 1)], [(482, 0, 0, 1), (483, 0, 0, 1), (484, 0, 0, 1), (485, 0, 49, 3), (488, 1, 0, 1), (489, 1, 0, 1), (490, 1, 0, 1), (491, 0, 0, 1), (492, 0, 0, 1), (493, 0, 0, 1), (494, 1, 0, 1), (495, 1, 0, 1), (496, 0, 0, 1), (497, 0, 0, 1), (498, 0, 0, 1), (499, 0, 52, 3)], [(502, 0, 0, 3), (505, 0, 0, 1), (506, 0, 0, 1), (507, 1, 0, 1), (508, 1, 0, 1), (509, 1, 0, 1), (510, 0, 0, 1), (511, 0, 0, 1), (512, 0, 0, 1), (513, 0, 0, 1), (514, 1, 0, 2), (516, 0, 0, 1), (517, 1, 0, 1), (518, 1, 0, 1), (519, 0, 0, 1), (520, 0, 0, 1)], [(521, 0, 0, 1), (522, 0, 0, 1), (523, 1, 53, 3), (526, 0, 0, 1), (527, 0, 0, 1), (528, 1, 0, 1), (529, 1, 0, 1), (530, 0, 0, 1), (531, 0, 0, 1), (532, 0, 0, 1), (533, 0, 55, 3), (536, 1, 0, 1), (537, 1, 0, 1), (538, 1, 0, 1), (539, 0, 0, 1), (540, 0, 0, 1)], [(541, 0, 0, 1), (542, 0, 0, 1), (543, 1, 0, 2), (545, 0, 0, 1), (546, 1, 0, 1), (547, 1, 0, 1), (548, 0, 0, 1), (549, 0, 0, 1), (550, 0, 0, 1), (551, 0, 0, 1), (552, 1, 53, 3), (555, 0, 0, 1), (556, 0, 0, 1), (557, 1, 0, 1), (558, 1, 0, 1), (559, 0, 0, 1)], [(560, 0, 0, 1), (561, 0, 0, 1), (562, 0, 59, 3), (565, 0, 0, 3), (568, 0, 0, 1), (569, 0, 0, 1), (570, 1, 0, 1), (571, 0, 60, 3), (574, 1, 0, 1), (575, 0, 63, 3), (578, 0, 0, 3), (581, 0, 0, 1), (582, 0, 0, 1), (583, 1, 0, 1), (584, 1, 0, 1), (585, 1, 0, 1)], [(586, 0, 0, 1), (587, 0, 0, 1), (588, 0, 0, 1), (589, 1, 0, 1), (590, 1, 0, 1), (591, 0, 0, 1), (592, 0, 0, 1), (593, 0, 0, 1), (594, 0, 64, 3), (597, 1, 0, 1), (598, 1, 0, 1), (599, 1, 0, 1), (600, 0, 0, 1), (601, 0, 0, 1), (602, 0, 0, 1), (603, 1, 0, 1)], [(604, 1, 0, 1), (605, 0, 0, 1), (606, 0, 0, 1), (607, 0, 0, 1), (608, 0, 67, 3), (611, 0, 0, 3), (614, 0, 0, 1), (615, 0, 0, 1), (616, 1, 0, 1), (617, 1, 0, 1), (618, 1, 0, 1), (619, 0, 0, 1), (620, 0, 0, 1), (621, 0, 0, 1), (622, 1, 0, 1), (623, 1, 0, 1)], [(624, 0, 0, 1), (625, 0, 0, 1), (626, 0, 0, 1), (627, 1, 0, 1), (628, 1, 0, 1), (629, 0, 0, 1), (630, 0, 0, 1), (631, 0, 0, 1), (632, 0, 68, 3), (635, 1, 0, 1), (636, 1, 0, 1), (637, 1, 0, 1), (638, 0, 0, 1), (639, 0, 0, 1), (640, 0, 0, 1), (641, 1, 0, 1)], [(642, 1, 0, 1), (643, 0, 0, 1), (644, 0, 0, 1), (645, 0, 0, 1), (646, 1, 0, 1), (647, 1, 0, 1), (648, 0, 0, 1), (649, 0, 0, 1), (650, 0, 0, 1), (651, 0, 72, 3), (654, 0, 0, 3), (657, 0, 0, 1), (658, 0, 0, 1), (659, 1, 0, 1), (660, 1, 0, 1), (661, 1, 0, 1)], [(662, 0, 0, 1), (663, 0, 0, 1), (664, 0, 0, 1), (665, 1, 0, 1), (666, 1, 0, 1), (667, 0, 0, 1), (668, 0, 0, 1), (669, 0, 0, 1), (670, 0, 73, 3), (673, 1, 0, 1), (674, 1, 0, 1), (675, 1, 0, 1), (676, 0, 0, 1), (677, 0, 0, 1), (678, 0, 0, 1), (679, 1, 0, 1)], [(680, 1, 0, 1), (681, 0, 0, 1), (682, 0, 0, 1), (683, 0, 0, 1), (684, 0, 76, 3), (687, 0, 0, 3), (690, 0, 0, 1), (691, 0, 0, 1), (692, 1, 0, 1), (693, 1, 0, 1), (694, 1, 0, 1), (695, 0, 0, 1), (696, 0, 0, 1), (697, 0, 0, 1), (698, 1, 0, 1), (699, 1, 0, 1)], [(700, 0, 0, 1), (701, 0, 0, 1), (702, 0, 0, 1), (703, 1, 0, 1), (704, 1, 0, 1), (705, 0, 0, 1), (706, 0, 0, 1), (707, 0, 0, 1), (708, 0, 77, 3), (711, 1, 0, 1), (712, 1, 0, 1), (713, 1, 0, 1), (714, 0, 0, 1), (715, 0, 0, 1), (716, 0, 0, 1), (717, 1, 0, 1)], [(718, 1, 0, 1), (719, 0, 0, 1), (720, 0, 0, 1), (721, 0, 0, 1), (722, 1, 0, 1), (723, 1, 0, 1), (724, 0, 0, 1), (725, 0, 0, 1), (726, 0, 0, 1), (727, 0, 81, 3), (730, 0, 0, 1), (731, 0, 0, 3), (734, 0, 0, 1), (735, 0, 0, 1), (736, 1, 0, 1), (737, 1, 0, 1)], [(738, 1, 0, 1), (739, 0, 0, 1), (740, 0, 0, 1), (741, 0, 0, 1), (742, 1, 0, 1), (743, 1, 0, 1), (744, 0, 0, 1), (745, 0, 0, 1), (746, 0, 0, 1), (747, 1, 0, 1), (748, 1, 0, 1), (749, 0, 0, 1), (750, 0, 0, 1), (751, 0, 0, 1), (752, 0, 82, 3), (755, 1, 0, 1)], [(756, 1, 0, 1), (757, 1, 0, 1), (758, 0, 0, 1), (759, 0, 0, 1), (760, 0, 0, 1), (761, 1, 0, 1), (762, 1, 0, 1), (763, 0, 0, 1), (764, 0, 0, 1), (765, 0, 0, 1), (766, 1, 0, 1), (767, 1, 0, 1), (768, 0, 0, 1), (769, 0, 0, 1), (770, 0, 0, 1), (771, 0, 85, 3)], [(774, 0, 0, 1), (775, 0, 0, 3), (778, 0, 0, 1), (779, 0, 0, 1), (780, 1, 0, 1), (781, 1, 0, 1), (782, 1, 0, 1), (783, 0, 0, 1), (784, 0, 0, 1), (785, 0, 0, 1), (786, 0, 86, 3), (789, 1, 0, 1), (790, 1, 0, 1), (791, 1, 0, 1), (792, 0, 0, 1), (793, 0, 0, 1)], [(794, 0, 0, 1), (795, 0, 89, 3), (798, 0, 0, 3), (801, 0, 0, 1), (802, 0, 0, 1), (803, 1, 0, 1), (804, 1, 0, 1), (805, 1, 0, 1), (806, 0, 0, 1), (807, 0, 0, 1), (808, 0, 0, 1), (809, 1, 0, 1), (810, 1, 0, 1), (811, 0, 0, 1), (812, 0, 0, 1), (813, 0, 0, 1)], [(814, 0, 90, 3), (817, 1, 0, 1), (818, 1, 0, 1), (819, 1, 0, 1), (820, 0, 0, 1), (821, 0, 0, 1), (822, 0, 0, 1), (823, 1, 0, 1), (824, 1, 0, 1), (825, 0, 0, 1), (826, 0, 0, 1), (827, 0, 0, 1), (828, 0, 93, 3), (831, 0, 0, 3), (834, 0, 0, 1), (835, 0, 0, 1)], [(836, 1, 0, 1), (837, 1, 0, 1), (838, 1, 0, 1), (839, 0, 0, 1), (840, 0, 0, 1), (841, 0, 0, 1), (842, 0, 94, 3), (845, 1, 0, 1), (846, 1, 0, 1), (847, 1, 0, 1), (848, 0, 0, 1), (849, 0, 0, 1), (850, 0, 0, 1), (851, 0, 97, 3), (854, 0, 0, 3), (857, 0, 0, 1)], [(858, 0, 0, 1), (859, 1, 0, 1), (860, 1, 0, 1), (861, 1, 0, 1), (862, 0, 0, 1), (863, 0, 0, 1), (864, 0, 0, 1), (865, 1, 0, 1), (866, 1, 0, 1), (867, 0, 0, 1), (868, 0, 0, 1), (869, 0, 0, 1), (870, 0, 98, 3), (873, 1, 0, 1), (874, 1, 0, 1), (875, 1, 0, 1)], [(876, 0, 0, 1), (877, 0, 0, 1), (878, 0, 0, 1), (879, 1, 0, 1), (880, 1, 0, 1), (881, 0, 0, 1), (882, 0, 0, 1), (883, 0, 0, 1), (884, 0, 101, 3), (887, 0, 0, 3), (890, 0, 0, 1), (891, 0, 0, 1), (892, 1, 0, 1), (893, 1, 0, 1), (894, 1, 0, 1), (895, 0, 0, 1)], [(896, 0, 0, 1), (897, 0, 0, 1), (898, 0, 102, 3), (901, 1, 0, 1), (902, 1, 0, 1), (903, 1, 0, 1), (904, 0, 0, 1), (905, 0, 0, 1), (906, 0, 0, 1), (907, 0, 105, 3), (910, 0, 0, 3), (913, 0, 0, 1), (914, 0, 0, 1), (915, 1, 0, 1), (916, 1, 0, 1), (917, 1, 0, 1)], [(918, 0, 0, 1), (919, 0, 0, 1), (920, 0, 0, 1), (921, 1, 0, 1), (922, 1, 0, 1), (923, 0, 0, 1), (924, 0, 0, 1), (925, 0, 0, 1), (926, 0, 106, 3), (929, 1, 0, 1), (930, 1, 0, 1), (931, 1, 0, 1), (932, 0, 0, 1), (933, 0, 0, 1), (934, 0, 0, 1), (935, 1, 0, 1)], [(936, 1, 0, 1), (937, 0, 0, 1), (938, 0, 0, 1), (939, 0, 0, 1), (940, 0, 109, 3), (943, 0, 0, 3), (946, 0, 0, 1), (947, 0, 0, 1), (948, 1, 0, 1), (949, 1, 0, 1), (950, 1, 0, 1), (951, 0, 0, 1), (952, 0, 0, 1), (953, 0, 0, 1), (954, 0, 110, 3), (957, 1, 0, 1)], [(958, 1, 0, 1), (959, 1, 0, 1), (960, 0, 0, 1), (961, 0, 0, 1), (962, 0, 0, 1), (963, 0, 113, 3), (966, 0, 0, 3), (969, 0, 0, 1), (970, 0, 0, 1), (971, 1, 0, 1), (972, 1, 0, 1), (973, 1, 0, 1), (974, 0, 0, 1), (975, 0, 0, 1), (976, 0, 0, 1), (977, 1, 0, 1)], [(978, 1, 0, 1), (979, 0, 0, 1), (980, 0, 0, 1), (981, 0, 0, 1), (982, 0, 114, 3), (985, 1, 0, 1), (986, 1, 0, 1), (987, 1, 0, 1), (988, 0, 0, 1), (989, 0, 0, 1), (990, 0, 0, 1), (991, 1, 0, 1), (992, 1, 0, 1), (993, 0, 0, 1), (994, 0, 0, 1), (995, 0, 0, 1)], [(996, 0, 117, 3), (999, 0, 0, 3), (1002, 0, 0, 1), (1003, 0, 0, 1), (1004, 1, 0, 1), (1005, 1, 0, 1), (1006, 1, 0, 1), (1007, 0, 0, 1), (1008, 0, 0, 1), (1009, 0, 0, 1), (1010, 0, 118, 3), (1013, 1, 0, 1), (1014, 1, 0, 1), (1015, 1, 0, 1), (1016, 0, 0, 1), (1017, 0, 0, 1)], [(1018, 0, 0, 1), (1019, 0, 121, 3), (1022, 0, 0, 3), (1025, 0, 0, 1), (1026, 0, 0, 1), (1027, 1, 0, 1), (1028, 1, 0, 1), (1029, 1, 0, 1), (1030, 0, 0, 1), (1031, 0, 0, 1), (1032, 0, 0, 1), (1033, 1, 0, 1), (1034, 1, 0, 1), (1035, 0, 0, 1), (1036, 0, 0, 1), (1037, 0, 0, 1)], [(1038, 0, 122, 3), (1041, 1, 0, 1), (1042, 1, 0, 1), (1043, 1, 0, 1), (1044, 0, 0, 1), (1045, 0, 0, 1), (1046, 0, 0, 1), (1047, 1, 0, 1), (1048, 1, 0, 1), (1049, 0, 0, 1), (1050, 0, 0, 1), (1051, 0, 0, 1), (1052, 0, 126, 3), (1055, 0, 0, 1), (1056, 0, 0, 3), (1059, 0, 0, 1)], [(1060, 0, 0, 1), (1061, 1, 0, 1), (1062, 1, 0, 1), (1063, 1, 0, 1), (1064, 0, 0, 1), (1065, 0, 0, 1), (1066, 0, 0, 1), (1067, 1, 0, 1), (1068, 1, 0, 1), (1069, 0, 0, 1), (1070, 0, 0, 1), (1071, 0, 0, 1), (1072, 1, 0, 1), (1073, 1, 0, 1), (1074, 0, 0, 1), (1075, 0, 0, 1)], [(1076, 0, 0, 1), (1077, 0, 127, 3), (1080, 1, 0, 1), (1081, 1, 0, 1), (1082, 1, 0, 1), (1083, 0, 0, 1), (1084, 0, 0, 1), (1085, 0, 0, 1), (1086, 1, 0, 1), (1087, 1, 0, 1), (1088, 0, 0, 1), (1089, 0, 0, 1), (1090, 0, 0, 1), (1091, 1, 0, 1), (1092, 1, 0, 1), (1093, 0, 0, 1)], [(1094, 0, 0, 1), (1095, 0, 0, 1), (1096, 0, 130, 3), (1099, 0, 0, 1), (1100, 0, 0, 3), (1103, 0, 0, 1), (1104, 0, 0, 1), (1105, 1, 0, 1), (1106, 1, 0, 1), (1107, 1, 0, 1), (1108, 0, 0, 1), (1109, 0, 0, 1), (1110, 0, 0, 1), (1111, 0, 131, 3), (1114, 1, 0, 1), (1115, 1, 0, 1)], [(1116, 1, 0, 1), (1117, 0, 0, 1), (1118, 0, 0, 1), (1119, 0, 0, 1), (1120, 0, 134, 3), (1123, 0, 0, 3), (1126, 0, 0, 1), (1127, 0, 0, 1), (1128, 1, 0, 1), (1129, 0, 135, 3), (1132, 1, 0, 1), (1133, 0, 138, 3), (1136, 0, 0, 3), (1139, 0, 0, 1), (1140, 0, 0, 1), (1141, 1, 0, 1)], [(1142, 1, 0, 1), (1143, 1, 0, 1), (1144, 0, 0, 1), (1145, 0, 0, 1), (1146, 0, 0, 1), (1147, 0, 139, 3), (1150, 1, 0, 1), (1151, 1, 0, 1), (1152, 1, 0, 1), (1153, 0, 0, 1), (1154, 0, 0, 1), (1155, 0, 0, 1), (1156, 0, 142, 3), (1159, 0, 0, 3), (1162, 0, 0, 1), (1163, 0, 0, 1)], [(1164, 1, 0, 1), (1165, 1, 0, 1), (1166, 1, 0, 1), (1167, 0, 0, 1), (1168, 0, 0, 1), (1169, 0, 0, 1), (1170, 1, 0, 1), (1171, 1, 0, 1), (1172, 0, 0, 1), (1173, 0, 0, 1), (1174, 0, 0, 1), (1175, 0, 143, 3), (1178, 1, 0, 1), (1179, 1, 0, 1), (1180, 1, 0, 1), (1181, 0, 0, 1)], [(1182, 0, 0, 1), (1183, 0, 0, 1), (1184, 1, 0, 1), (1185, 1, 0, 1), (1186, 0, 0, 1), (1187, 0, 0, 1), (1188, 0, 0, 1), (1189, 0, 146, 3), (1192, 0, 0, 1), (1193, 0, 0, 3), (1196, 0, 0, 1), (1197, 0, 0, 1), (1198, 1, 0, 1), (1199, 1, 0, 1), (1200, 1, 0, 1), (1201, 0, 0, 1)], [(1202, 0, 0, 1), (1203, 0, 0, 1), (1204, 1, 0, 1), (1205, 1, 0, 1), (1206, 0, 0, 1), (1207, 0, 0, 1), (1208, 0, 0, 1), (1209, 1, 0, 1), (1210, 1, 0, 1), (1211, 0, 0, 1), (1212, 0, 0, 1), (1213, 0, 0, 1), (1214, 0, 0, 1), (1215, 1, 0, 2), (1217, 0, 0, 1), (1218, 1, 0, 1)], [(1219, 1, 0, 1), (1220, 0, 0, 1), (1221, 0, 0, 1), (1222, 0, 0, 1), (1223, 0, 0, 1), (1224, 1, 53, 3), (1227, 0, 0, 1), (1228, 0, 0, 1), (1229, 0, 147, 3), (1232, 1, 0, 1), (1233, 1, 0, 1), (1234, 1, 0, 1), (1235, 0, 0, 1), (1236, 0, 0, 1), (1237, 0, 0, 1), (1238, 1, 0, 1)], [(1239, 1, 0, 1), (1240, 0, 0, 1), (1241, 0, 0, 1), (1242, 0, 0, 1), (1243, 1, 0, 1), (1244, 1, 0, 1), (1245, 0, 0, 1), (1246, 0, 0, 1), (1247, 0, 0, 1), (1248, 0, 0, 1), (1249, 1, 0, 2), (1251, 0, 0, 1), (1252, 1, 0, 1), (1253, 1, 0, 1), (1254, 0, 0, 1), (1255, 0, 0, 1)], [(1256, 0, 0, 1), (1257, 0, 0, 1), (1258, 1, 53, 3), (1261, 0, 0, 1), (1262, 0, 0, 1), (1263, 0, 151, 3), (1266, 0, 0, 1), (1267, 0, 0, 3), (1270, 0, 0, 1), (1271, 0, 0, 1), (1272, 1, 0, 1), (1273, 1, 0, 1), (1274, 1, 0, 1), (1275, 0, 0, 1), (1276, 0, 0, 1), (1277, 0, 0, 1)], [(1278, 0, 152, 3), (1281, 1, 0, 1), (1282, 1, 0, 1), (1283, 1, 0, 1), (1284, 0, 0, 1), (1285, 0, 0, 1), (1286, 0, 0, 1), (1287, 0, 155, 3), (1290, 0, 0, 3), (1293, 0, 0, 1), (1294, 0, 0, 1), (1295, 1, 0, 1), (1296, 1, 0, 1), (1297, 1, 0, 1), (1298, 0, 0, 1), (1299, 0, 0, 1)], [(1300, 0, 0, 1), (1301, 1, 0, 1), (1302, 1, 0, 1), (1303, 0, 0, 1), (1304, 0, 0, 1), (1305, 0, 0, 1), (1306, 1, 0, 1), (1307, 1, 0, 1), (1308, 0, 0, 1), (1309, 0, 0, 1), (1310, 0, 0, 1), (1311, 0, 156, 3), (1314, 1, 0, 1), (1315, 1, 0, 1), (1316, 1, 0, 1), (1317, 0, 0, 1)], [(1318, 0, 0, 1), (1319, 0, 0, 1), (1320, 1, 0, 1), (1321, 1, 0, 1), (1322, 0, 0, 1), (1323, 0, 0, 1), (1324, 0, 0, 1), (1325, 1, 0, 1), (1326, 1, 0, 1), (1327, 0, 0, 1), (1328, 0, 0, 1), (1329, 0, 0, 1), (1330, 0, 159, 3), (1333, 0, 0, 3), (1336, 0, 0, 1), (1337, 0, 0, 1)], [(1338, 1, 0, 1), (1339, 1, 0, 1), (1340, 1, 0, 1), (1341, 0, 0, 1), (1342, 0, 0, 1), (1343, 0, 0, 1), (1344, 1, 0, 1), (1345, 1, 0, 1), (1346, 0, 0, 1), (1347, 0, 0, 1), (1348, 0, 0, 1), (1349, 1, 0, 1), (1350, 1, 0, 1), (1351, 0, 0, 1), (1352, 0, 0, 1), (1353, 0, 0, 1)], [(1354, 0, 160, 3), (1357, 1, 0, 1), (1358, 1, 0, 1), (1359, 1, 0, 1), (1360, 0, 0, 1), (1361, 0, 0, 1), (1362, 0, 0, 1), (1363, 1, 0, 1), (1364, 1, 0, 1), (1365, 0, 0, 1), (1366, 0, 0, 1), (1367, 0, 0, 1), (1368, 1, 0, 1), (1369, 1, 0, 1), (1370, 0, 0, 1), (1371, 0, 0, 1)], [(1372, 0, 0, 1), (1373, 0, 163, 3), (1376, 0, 0, 3), (1379, 0, 0, 1), (1380, 0, 0, 1), (1381, 1, 0, 1), (1382, 1, 0, 1), (1383, 1, 0, 1), (1384, 0, 0, 1), (1385, 0, 0, 1), (1386, 0, 0, 1), (1387, 1, 0, 1), (1388, 1, 0, 1), (1389, 0, 0, 1), (1390, 0, 0, 1), (1391, 0, 0, 1)], [(1392, 1, 0, 1), (1393, 1, 0, 1), (1394, 0, 0, 1), (1395, 0, 0, 1), (1396, 0, 0, 1), (1397, 0, 164, 3), (1400, 1, 0, 1), (1401, 1, 0, 1), (1402, 1, 0, 1), (1403, 0, 0, 1), (1404, 0, 0, 1), (1405, 0, 0, 1), (1406, 1, 0, 1), (1407, 1, 0, 1), (1408, 0, 0, 1), (1409, 0, 0, 1)], [(1410, 0, 0, 1), (1411, 1, 0, 1), (1412, 1, 0, 1), (1413, 0, 0, 1), (1414, 0, 0, 1), (1415, 0, 0, 1), (1416, 0, 167, 3), (1419, 0, 0, 3), (1422, 0, 0, 1), (1423, 0, 0, 1), (1424, 1, 0, 1), (1425, 1, 0, 1), (1426, 1, 0, 1), (1427, 0, 0, 1), (1428, 0, 0, 1), (1429, 0, 0, 1)], [(1430, 1, 0, 1), (1431, 1, 0, 1), (1432, 0, 0, 1), (1433, 0, 0, 1), (1434, 0, 0, 1), (1435, 1, 0, 1), (1436, 1, 0, 1), (1437, 0, 0, 1), (1438, 0, 0, 1), (1439, 0, 0, 1), (1440, 1, 0, 1), (1441, 1, 0, 1), (1442, 0, 0, 1), (1443, 0, 0, 1), (1444, 0, 0, 1), (1445, 0, 168, 3)], [(1448, 1, 0, 1), (1449, 1, 0, 1), (1450, 1, 0, 1), (1451, 0, 0, 1), (1452, 0, 0, 1), (1453, 0, 0, 1), (1454, 1, 0, 1), (1455, 1, 0, 1), (1456, 0, 0, 1), (1457, 0, 0, 1), (1458, 0, 0, 1), (1459, 1, 0, 1), (1460, 1, 0, 1), (1461, 0, 0, 1), (1462, 0, 0, 1), (1463, 0, 0, 1)], [(1464, 1, 0, 1), (1465, 1, 0, 1), (1466, 0, 0, 1), (1467, 0, 0, 1), (1468, 0, 0, 1), (1469, 0, 172, 3), (1472, 0, 0, 3), (1475, 0, 0, 1), (1476, 0, 0, 1), (1477, 1, 0, 1), (1478, 1, 0, 1), (1479, 1, 0, 1), (1480, 0, 0, 1), (1481, 0, 0, 1), (1482, 0, 0, 1), (1483, 1, 0, 1)], [(1484, 1, 0, 1), (1485, 0, 0, 1), (1486, 0, 0, 1), (1487, 0, 0, 1), (1488, 1, 0, 1), (1489, 1, 0, 1), (1490, 0, 0, 1), (1491, 0, 0, 1), (1492, 0, 0, 1), (1493, 0, 173, 3), (1496, 1, 0, 1), (1497, 1, 0, 1), (1498, 1, 0, 1), (1499, 0, 0, 1), (1500, 0, 0, 1), (1501, 0, 0, 1)], [(1502, 1, 0, 1), (1503, 1, 0, 1), (1504, 0, 0, 1), (1505, 0, 0, 1), (1506, 0, 0, 1), (1507, 1, 0, 1), (1508, 1, 0, 1), (1509, 0, 0, 1), (1510, 0, 0, 1), (1511, 0, 0, 1), (1512, 0, 176, 3), (1515, 0, 0, 3), (1518, 0, 0, 1), (1519, 0, 0, 1), (1520, 1, 0, 1), (1521, 1, 0, 1)], [(1522, 1, 0, 1), (1523, 0, 0, 1), (1524, 0, 0, 1), (1525, 0, 0, 1), (1526, 1, 0, 1), (1527, 1, 0, 1), (1528, 0, 0, 1), (1529, 0, 0, 1), (1530, 0, 0, 1), (1531, 0, 177, 3), (1534, 1, 0, 1), (1535, 1, 0, 1), (1536, 1, 0, 1), (1537, 0, 0, 1), (1538, 0, 0, 1), (1539, 0, 0, 1)], [(1540, 1, 0, 1), (1541, 1, 0, 1), (1542, 0, 0, 1), (1543, 0, 0, 1), (1544, 0, 0, 1), (1545, 0, 180, 3), (1548, 0, 0, 3), (1551, 0, 0, 1), (1552, 0, 0, 1), (1553, 1, 0, 1), (1554, 1, 0, 1), (1555, 1, 0, 1), (1556, 0, 0, 1), (1557, 0, 0, 1), (1558, 0, 0, 1), (1559, 1, 0, 1)], [(1560, 1, 0, 1), (1561, 0, 0, 1), (1562, 0, 0, 1), (1563, 0, 0, 1), (1564, 1, 0, 1), (1565, 1, 0, 1), (1566, 0, 0, 1), (1567, 0, 0, 1), (1568, 0, 0, 1), (1569, 0, 181, 3), (1572, 1, 0, 1), (1573, 1, 0, 1), (1574, 1, 0, 1), (1575, 0, 0, 1), (1576, 0, 0, 1), (1577, 0, 0, 1)], [(1578, 1, 0, 1), (1579, 1, 0, 1), (1580, 0, 0, 1), (1581, 0, 0, 1), (1582, 0, 0, 1), (1583, 1, 0, 1), (1584, 1, 0, 1), (1585, 0, 0, 1), (1586, 0, 0, 1), (1587, 0, 0, 1), (1588, 0, 184, 3), (1591, 0, 0, 3), (1594, 0, 0, 1), (1595, 0, 0, 1), (1596, 1, 0, 1), (1597, 1, 0, 1)], [(1598, 1, 0, 1), (1599, 0, 0, 1), (1600, 0, 0, 1), (1601, 0, 0, 1), (1602, 0, 185, 3), (1605, 1, 0, 1), (1606, 1, 0, 1), (1607, 1, 0, 1), (1608, 0, 0, 1), (1609, 0, 0, 1), (1610, 0, 0, 1), (1611, 0, 188, 3), (1614, 0, 0, 3), (1617, 0, 0, 1), (1618, 0, 0, 1), (1619, 1, 0, 1)], [(1620, 1, 0, 1), (1621, 1, 0, 1), (1622, 0, 0, 1), (1623, 0, 0, 1), (1624, 0, 0, 1), (1625, 0, 189, 3), (1628, 1, 0, 1), (1629, 1, 0, 1), (1630, 1, 0, 1), (1631, 0, 0, 1), (1632, 0, 0, 1), (1633, 0, 0, 1), (1634, 0, 192, 3), (1637, 0, 0, 3), (1640, 0, 0, 1), (1641, 0, 0, 1)], [(1642, 1, 0, 1), (1643, 0, 193, 3), (1646, 1, 0, 1), (1647, 0, 196, 3), (1650, 0, 0, 3), (1653, 0, 0, 1), (1654, 0, 0, 1), (1655, 1, 0, 1), (1656, 0, 197, 3), (1659, 1, 0, 1), (1660, 0, 200, 3), (1663, 0, 0, 3), (1666, 0, 0, 1), (1667, 0, 0, 1), (1668, 0, 0, 3), (1671, 0, 0, 3)], [(1674, 0, 0, 1), (1675, 0, 0, 1), (1676, 0, 0, 0)]]
def pg_h_0 : List (List (List (Nat × Nat × Nat × Nat))) := [ph_0, ph_1, ph_2, ph_3, ph_4, ph_5, ph_6, ph_7, ph_8, ph_9, ph_10, ph_11, ph_12, ph_13, ph_14, ph_15]
def pg_h_1 : List (List (List (Nat × Nat × Nat × Nat))) := [ph_16, ph_17, ph_18, ph_19, ph_20, ph_21, ph_22, ph_23, ph_24, ph_25, ph_26, ph_27, ph_28, ph_29, ph_30, ph_31]
def pg_h_2 : List (List (List (Nat × Nat × Nat × Nat))) := [ph_32, ph_33, ph_34, ph_35, ph_36, ph_37, ph_38, ph_39, ph_40, ph_41, ph_42, ph_43, ph_44, ph_45, ph_46, ph_47]
def pg_h_3 : List (List (List (Nat × Nat × Nat × Nat))) := [ph_48, ph_49, ph_50, ph_51, ph_52, ph_53, ph_54, ph_55, ph_56, ph_57, ph_58, ph_59, ph_60, ph_61, ph_62, ph_63]
def pg_h_4 : List (List (List (Nat × Nat × Nat × Nat))) := [ph_64, ph_65, ph_66, ph_67, ph_68, ph_69, ph_70, ph_71, ph_72, ph_73, ph_74, ph_75, ph_76, ph_77, ph_78, ph_79]
def pg_h_5 : List (List (List (Nat × Nat × Nat × Nat))) := [ph_80, ph_81, ph_82, ph_83, ph_84, ph_85, ph_86, ph_87, ph_88, ph_89, ph_90, ph_91, ph_92, ph_93, ph_94, ph_95]
def pg_h_6 : List (List (List (Nat × Nat × Nat × Nat))) := [ph_96, ph_97, ph_98, ph_99, ph_100, ph_101, ph_102, ph_103, ph_104, ph_105, ph_106, ph_107, ph_108, ph_109, ph_110, ph_111]
def pg_h_7 : List (List (List (Nat × Nat × Nat × Nat))) := [ph_112, ph_113, ph_114, ph_115, ph_116, ph_117, ph_118, ph_119, ph_120, ph_121, ph_122, ph_123, ph_124, ph_125, ph_126, ph_127]
def pg_h_8 : List (List (List (Nat × Nat × Nat × Nat))) := [ph_128, ph_129, ph_130, ph_131, ph_132, ph_133, ph_134, ph_135, ph_136, ph_137, ph_138, ph_139, ph_140, ph_141, ph_142, ph_143]
def pg_h_9 : List (List (List (Nat × Nat × Nat × Nat))) := [ph_144, ph_145, ph_146, ph_147, ph_148, ph_149, ph_150, ph_151, ph_152, ph_153, ph_154, ph_155, ph_156, ph_157, ph_158, ph_159]
def pg_h_10 : List (List (List (Nat × Nat × Nat × Nat))) := [ph_160, ph_161, ph_162, ph_163, ph_164, ph_165, ph_166, ph_167, ph_168, ph_169, ph_170, ph_171, ph_172, ph_173, ph_174, ph_175]
def pg_h_11 : List (List (List (Nat × Nat × Nat × Nat))) := [ph_176, ph_177, ph_178, ph_179, ph_180, ph_181, ph_182, ph_183, ph_184, ph_185, ph_186, ph_187, ph_188, ph_189, ph_190, ph_191]
def pg_h_12 : List (List (List (Nat × Nat × Nat × Nat))) := [ph_192, ph_193, ph_194, ph_195, ph_196, ph_197, ph_198, ph_199, ph_200, ph_201, ph_202, ph_203, ph_204, ph_205, ph_206, ph_207]
def pg_h_13 : List (List (List (Nat × Nat × Nat × Nat))) := [ph_208, ph_209, ph_210, ph_211, ph_212, ph_213, ph_214, ph_215, ph_216, ph_217, ph_218, ph_219, ph_220, ph_221, ph_222, ph_223]
def pg_h_14 : List (List (List (Nat × Nat × Nat × Nat))) := [ph_224, ph_225, ph_226, ph_227, ph_228, ph_229, ph_230, ph_231, ph_232, ph_233, ph_234, ph_235, ph_236, ph_237, ph_238, ph_239]
def pg_h_15 : List (List (List (Nat × Nat × Nat × Nat))) := [ph_240, ph_241, ph_242, ph_243, ph_244, ph_245, ph_246, ph_247, ph_248, ph_249, ph_250, ph_251, ph_252, ph_253, ph_254, ph_255]
def pg_h_16 : List (List (List (Nat × Nat × Nat × Nat))) := [ph_256, ph_257, ph_258, ph_259, ph_260, ph_261, ph_262, ph_263, ph_264, ph_265, ph_266, ph_267, ph_268, ph_269, ph_270, ph_271]
def pg_h_17 : List (List (List (Nat × Nat × Nat × Nat))) := [ph_272, ph_273, ph_274]
def pg_h : Nat → List (List (Nat × Nat × Nat × Nat)) := fun m => pg_at [] (pg_at [] [pg_h_0, pg_h_1, pg_h_2, pg_h_3, pg_h_4, pg_h_5, pg_h_6, pg_h_7, pg_h_8, pg_h_9, pg_h_10, pg_h_11, pg_h_12, pg_h_13, pg_h_14, pg_h_15, pg_h_16, pg_h_17] (m / 16)) (m % 16)
def pg_hi (y i : Nat) : Nat × Nat × Nat × Nat := pg_at (0, 0, 0, 0) (pg_at [] (pg_h y) (i / 16)) (i % 16)
theorem lk_sub {big ws : List Cond} (ps : List Nat) (h : ps.map (fun i => big[i]?) = ws.map some) : ∀ w ∈ ws, w ∈ big := by
  intro w hw
  have h1 : some w ∈ ps.map (fun i => big[i]?) := by rw [h]; exact List.mem_map_of_mem hw
  obtain ⟨i, -, hi⟩ := List.mem_map.mp h1
  exact List.mem_of_getElem? hi
def lk_f_0 : List (Nat × Nat × Nat × Nat) := [(0, 9, 0, 0), (0, 15, 0, 1), (0, 19, 0, 5), (0, 23, 0, 2), (0, 26, 0, 3), (0, 29, 0, 4), (1, 7, 1, 0), (1, 13, 1, 1), (1, 16, 1, 2), (1, 19, 1, 3), (1, 22, 1, 4), (2, 7, 2, 0), (2, 13, 2, 1), (2, 16, 2, 2), (3, 11, 3, 0), (3, 15, 3, 1), (3, 18, 3, 2), (3, 21, 3, 3), (3, 36, 3, 4), (4, 10, 4, 0), (4, 16, 4, 1), (4, 20, 4, 2), (4, 24, 4, 4), (4, 33, 4, 5), (4, 42, 3, 4), (4, 87, 4, 6), (4, 92, 4, 3), (5, 11, 5, 1), (5, 15, 5, 0), (5, 23, 10, 11), (5, 29, 10, 2), (5, 33, 1, 0), (5, 42, 1, 2), (5, 45, 10, 9), (5, 48, 1, 1), (5, 51, 1, 4), (5, 54, 10, 10), (5, 57, 10, 1), (5, 61, 10, 0), (5, 65, 2, 1)]
def lk_f_1 : List (Nat × Nat × Nat × Nat) := [(5, 70, 2, 0), (5, 71, 7, 2), (5, 80, 7, 3), (5, 83, 7, 1), (5, 90, 7, 8), (5, 93, 1, 3), (5, 110, 2, 2), (5, 115, 7, 6), (6, 9, 6, 1), (6, 15, 6, 2), (6, 18, 6, 0), (6, 22, 10, 9), (6, 28, 10, 0), (6, 32, 7, 1), (6, 37, 7, 2), (6, 40, 7, 3), (6, 47, 7, 5), (6, 54, 10, 13), (6, 57, 10, 4), (6, 60, 10, 5), (6, 98, 7, 7), (6, 107, 7, 10), (7, 9, 7, 0), (7, 15, 7, 1), (7, 18, 7, 2), (7, 21, 7, 3), (7, 24, 7, 4), (7, 27, 7, 5), (7, 30, 7, 6), (7, 33, 7, 7), (7, 39, 7, 8), (7, 42, 7, 9), (7, 46, 7, 10), (7, 49, 7, 11), (8, 9, 8, 0), (8, 15, 10, 12), (8, 21, 10, 3), (8, 25, 9, 0), (8, 34, 9, 1), (8, 37, 9, 3)]
def lk_f_2 : List (Nat × Nat × Nat × Nat) := [(8, 40, 10, 10), (8, 43, 10, 1), (8, 47, 10, 0), (8, 51, 2, 1), (8, 56, 2, 0), (8, 59, 7, 2), (8, 64, 7, 3), (8, 67, 9, 2), (8, 78, 2, 2), (9, 7, 9, 0), (9, 13, 9, 1), (9, 16, 9, 2), (9, 19, 9, 3), (10, 11, 10, 0), (10, 19, 10, 1), (10, 25, 10, 2), (10, 31, 10, 3), (10, 35, 10, 4), (10, 39, 10, 5), (10, 45, 10, 6), (10, 49, 10, 7), (10, 52, 10, 14), (10, 60, 10, 8), (10, 63, 10, 9), (10, 66, 10, 10), (10, 69, 10, 11), (10, 72, 10, 12), (10, 75, 10, 13), (10, 82, 2, 0), (10, 85, 2, 1), (10, 88, 2, 2), (10, 93, 1, 0), (10, 94, 1, 1), (10, 97, 1, 2), (10, 100, 1, 3), (10, 101, 1, 4), (10, 107, 9, 0), (10, 110, 9, 1), (10, 113, 9, 2), (10, 114, 9, 3)]
def lk_f_3 : List (Nat × Nat × Nat × Nat) := [(10, 127, 7, 0), (10, 145, 7, 2), (10, 148, 7, 5), (10, 151, 7, 6), (10, 154, 7, 9), (10, 166, 7, 3), (10, 179, 7, 7), (10, 182, 7, 8), (10, 185, 7, 1), (10, 191, 7, 4), (10, 196, 7, 10), (10, 199, 7, 11), (11, 10, 11, 0), (11, 16, 11, 1), (11, 19, 11, 2), (11, 27, 11, 3), (11, 31, 11, 4), (11, 37, 11, 5), (11, 44, 11, 6), (11, 48, 11, 7), (11, 57, 11, 8), (11, 64, 11, 9), (11, 70, 11, 10), (11, 75, 11, 11), (11, 78, 11, 12), (11, 82, 11, 13), (11, 85, 11, 14), (11, 88, 11, 15), (11, 91, 10, 8), (11, 113, 10, 0), (11, 117, 7, 0), (11, 136, 7, 2), (11, 139, 7, 3), (11, 142, 7, 4), (11, 143, 7, 5), (11, 146, 7, 6), (11, 149, 7, 7), (11, 152, 7, 10), (11, 159, 10, 9), (11, 165, 11, 17)]
def lk_f_4 : List (Nat × Nat × Nat × Nat) := [(11, 184, 4, 0), (11, 192, 10, 6), (11, 195, 3, 4), (11, 211, 10, 2), (11, 215, 1, 0), (11, 220, 1, 1), (11, 223, 1, 2), (11, 226, 1, 3), (11, 235, 5, 1), (11, 256, 6, 1), (11, 271, 7, 1), (11, 306, 10, 14), (11, 313, 11, 18), (11, 362, 0, 1), (11, 365, 0, 0), (11, 368, 10, 10), (11, 371, 10, 11), (11, 374, 10, 13), (11, 377, 10, 12), (11, 380, 11, 16), (12, 7, 12, 0), (12, 13, 12, 1), (12, 16, 12, 2), (12, 19, 12, 4), (12, 22, 12, 5), (12, 25, 12, 6), (12, 28, 12, 14), (12, 31, 12, 15), (12, 34, 12, 16), (12, 37, 12, 17), (12, 41, 12, 18), (12, 44, 12, 23), (12, 47, 12, 25), (12, 50, 12, 26), (12, 53, 12, 27), (12, 56, 12, 28), (12, 59, 12, 29), (12, 62, 12, 30), (12, 65, 12, 34), (12, 139, 12, 7)]
def lk_f_5 : List (Nat × Nat × Nat × Nat) := [(12, 153, 12, 9), (12, 156, 12, 8), (12, 168, 12, 13), (12, 175, 12, 11), (12, 196, 12, 10), (12, 214, 12, 12), (12, 294, 12, 19), (12, 297, 12, 20), (12, 309, 12, 21), (12, 312, 12, 22), (12, 335, 12, 24), (12, 356, 12, 31), (12, 359, 12, 32), (12, 362, 12, 33), (12, 377, 12, 35), (12, 395, 12, 36), (12, 413, 12, 3)]
def lk_fw (q : Nat × Nat × Nat × Nat) : Cond := .fieldLink (am_on q.1) q.2.1 (am_on q.2.2.1) (am_T q.2.2.1 q.2.2.2).2.1 (am_T q.2.2.1 q.2.2.2).2.2.1
set_option maxRecDepth 100000 in
theorem lk_f_0_ok : ∀ w ∈ lk_f_0.map lk_fw, w ∈ lw_tbl := lk_sub [481, 483, 488, 485, 486, 487, 272, 276, 280, 284, 288, 248, 252, 256, 148, 149, 150, 151, 152, 450, 452, 453, 456, 457, 153, 458, 454, 407, 406, 359, 337, 274, 282, 352, 278, 290, 356, 335, 332, 255] rfl
set_option maxRecDepth 100000 in
theorem lk_f_1_ok : ∀ w ∈ lk_f_1.map lk_fw, w ∈ lw_tbl := lk_sub [251, 183, 189, 177, 208, 286, 259, 200, 432, 434, 431, 350, 329, 176, 181, 187, 196, 365, 342, 344, 205, 214, 172, 175, 180, 186, 192, 195, 199, 203, 207, 210, 212, 216, 421, 361, 340, 308, 311, 318] rfl
set_option maxRecDepth 100000 in
theorem lk_f_2_ok : ∀ w ∈ lk_f_2.map lk_fw, w ∈ lw_tbl := lk_sub [355, 334, 330, 254, 250, 182, 188, 315, 258, 307, 310, 313, 316, 328, 333, 336, 339, 341, 343, 345, 347, 367, 348, 351, 354, 358, 362, 364, 249, 253, 257, 273, 277, 281, 285, 289, 309, 312, 314, 317] rfl
set_option maxRecDepth 100000 in
theorem lk_f_3_ok : ∀ w ∈ lk_f_3.map lk_fw, w ∈ lw_tbl := lk_sub [174, 185, 198, 202, 211, 191, 206, 209, 178, 194, 215, 217, 506, 507, 508, 509, 510, 511, 512, 513, 514, 515, 516, 517, 518, 519, 520, 521, 349, 331, 173, 184, 190, 193, 197, 201, 204, 213, 353, 523] rfl
set_option maxRecDepth 100000 in
theorem lk_f_4_ok : ∀ w ∈ lk_f_4.map lk_fw, w ∈ lw_tbl := lk_sub [451, 346, 154, 338, 275, 279, 283, 287, 408, 433, 179, 368, 524, 484, 482, 357, 360, 366, 363, 522, 1221, 1222, 1223, 1225, 1226, 1227, 1235, 1236, 1237, 1238, 1239, 1244, 1246, 1247, 1248, 1249, 1250, 1251, 1255, 1228] rfl
set_option maxRecDepth 100000 in
theorem lk_f_5_ok : ∀ w ∈ lk_f_5.map lk_fw, w ∈ lw_tbl := lk_sub [1230, 1229, 1234, 1232, 1231, 1233, 1240, 1241, 1242, 1243, 1245, 1252, 1253, 1254, 1256, 1257, 1224] rfl
def lk_f : List (Nat × Nat × Nat × Nat) := lk_f_0 ++ lk_f_1 ++ lk_f_2 ++ lk_f_3 ++ lk_f_4 ++ lk_f_5
theorem lk_f_ok : ∀ q ∈ lk_f, lk_fw q ∈ lw_tbl := by
  intro qq hq
  simp only [lk_f, List.mem_append] at hq
  rcases hq with ((((hq | hq) | hq) | hq) | hq) | hq
  · exact lk_f_0_ok _ (List.mem_map_of_mem hq)
  · exact lk_f_1_ok _ (List.mem_map_of_mem hq)
  · exact lk_f_2_ok _ (List.mem_map_of_mem hq)
  · exact lk_f_3_ok _ (List.mem_map_of_mem hq)
  · exact lk_f_4_ok _ (List.mem_map_of_mem hq)
  · exact lk_f_5_ok _ (List.mem_map_of_mem hq)
def lk_m_0 : List (Nat × Nat × Nat) := [(0, 44, 3), (0, 48, 4), (3, 46, 16), (3, 50, 17), (4, 27, 11), (4, 30, 27), (4, 38, 30), (4, 45, 10), (4, 51, 29), (4, 55, 22), (4, 59, 13), (4, 63, 23), (4, 68, 12), (4, 72, 24), (4, 79, 25), (4, 83, 26), (4, 95, 31), (4, 98, 32), (4, 101, 28), (5, 38, 37), (5, 76, 38), (5, 96, 88), (5, 100, 39), (5, 104, 273), (5, 111, 86), (6, 50, 42), (6, 63, 41), (6, 66, 45), (6, 70, 271), (6, 75, 46), (6, 79, 69), (6, 82, 87), (6, 86, 50), (6, 89, 89), (6, 92, 49), (6, 95, 48), (6, 101, 51), (6, 104, 68), (6, 111, 52), (8, 30, 59)]
def lk_m_1 : List (Nat × Nat × Nat) := [(8, 70, 88), (8, 74, 60), (8, 79, 86), (10, 78, 56), (10, 89, 8), (10, 104, 6), (10, 115, 62), (10, 124, 14), (10, 130, 68), (10, 134, 72), (10, 138, 71), (10, 141, 78), (10, 158, 85), (10, 162, 79), (10, 169, 80), (10, 172, 70), (10, 176, 55), (10, 192, 86), (10, 202, 15), (11, 9, 63), (11, 24, 33), (11, 36, 57), (11, 43, 40), (11, 54, 18), (11, 95, 73), (11, 99, 65), (11, 103, 149), (11, 106, 68), (11, 109, 74), (11, 122, 76), (11, 126, 75), (11, 130, 69), (11, 133, 77), (11, 156, 89), (11, 162, 90), (11, 168, 19), (11, 174, 20), (11, 178, 21), (11, 188, 84), (11, 198, 87)]
def lk_m_2 : List (Nat × Nat × Nat) := [(11, 201, 148), (11, 204, 81), (11, 208, 66), (11, 227, 147), (11, 232, 37), (11, 239, 34), (11, 243, 35), (11, 247, 82), (11, 250, 67), (11, 253, 41), (11, 259, 47), (11, 262, 58), (11, 265, 83), (11, 268, 52), (11, 274, 53), (11, 277, 43), (11, 280, 44), (11, 283, 271), (11, 292, 118), (11, 295, 64), (11, 300, 272), (11, 309, 70), (11, 316, 126), (11, 322, 36), (11, 325, 127), (11, 328, 145), (11, 331, 144), (11, 334, 104), (11, 337, 146), (11, 340, 139), (11, 343, 140), (11, 346, 141), (11, 349, 142), (11, 352, 143), (11, 355, 1), (11, 358, 2), (12, 68, 151), (12, 72, 152), (12, 78, 154), (12, 82, 157)]
def lk_m_3 : List (Nat × Nat × Nat) := [(12, 88, 159), (12, 92, 161), (12, 96, 162), (12, 100, 153), (12, 105, 164), (12, 109, 167), (12, 112, 169), (12, 116, 156), (12, 120, 155), (12, 123, 198), (12, 129, 172), (12, 132, 171), (12, 136, 174), (12, 159, 178), (12, 162, 179), (12, 165, 180), (12, 172, 181), (12, 178, 184), (12, 182, 185), (12, 186, 183), (12, 189, 182), (12, 193, 188), (12, 199, 192), (12, 202, 189), (12, 205, 190), (12, 208, 191), (12, 211, 186), (12, 217, 187), (12, 220, 193), (12, 223, 195), (12, 226, 196), (12, 229, 197), (12, 234, 199), (12, 239, 201), (12, 242, 203), (12, 247, 208), (12, 251, 207), (12, 254, 206), (12, 257, 209), (12, 260, 205)]
def lk_m_4 : List (Nat × Nat × Nat) := [(12, 265, 210), (12, 268, 158), (12, 272, 212), (12, 276, 214), (12, 279, 216), (12, 282, 218), (12, 285, 219), (12, 288, 222), (12, 291, 223), (12, 300, 225), (12, 303, 226), (12, 306, 227), (12, 315, 230), (12, 318, 231), (12, 323, 234), (12, 326, 236), (12, 329, 235), (12, 342, 245), (12, 345, 247), (12, 348, 249), (12, 353, 202), (12, 371, 253), (12, 374, 254), (12, 380, 256), (12, 383, 257), (12, 386, 258), (12, 389, 259), (12, 392, 260), (12, 398, 262), (12, 401, 261), (12, 404, 264), (12, 407, 263), (12, 410, 265), (40, 9, 91), (40, 12, 150), (40, 13, 92), (40, 17, 160), (40, 18, 93), (40, 22, 163), (40, 23, 94)]
def lk_m_5 : List (Nat × Nat × Nat) := [(40, 27, 165), (40, 28, 95), (40, 31, 166), (40, 32, 96), (40, 36, 168), (40, 37, 97), (40, 40, 170), (40, 41, 98), (40, 44, 173), (40, 45, 99), (40, 48, 175), (40, 49, 100), (40, 52, 176), (40, 55, 101), (40, 59, 177), (40, 60, 102), (40, 63, 194), (40, 64, 103), (40, 67, 200), (40, 68, 104), (40, 72, 202), (40, 73, 105), (40, 76, 204), (40, 77, 106), (40, 81, 211), (40, 82, 107), (40, 85, 213), (40, 86, 108), (40, 89, 215), (40, 90, 109), (40, 93, 217), (40, 94, 110), (40, 97, 220), (40, 98, 111), (40, 101, 228), (40, 102, 112), (40, 105, 229), (40, 106, 113), (40, 109, 232), (40, 110, 114)]
def lk_m_6 : List (Nat × Nat × Nat) := [(40, 113, 233), (40, 114, 115), (40, 117, 221), (40, 118, 116), (40, 121, 224), (40, 122, 117), (40, 126, 237), (40, 127, 119), (40, 130, 238), (40, 131, 120), (40, 134, 239), (40, 135, 121), (40, 138, 240), (40, 139, 122), (40, 142, 241), (40, 143, 123), (40, 146, 242), (40, 147, 124), (40, 151, 243), (40, 152, 125), (40, 155, 244), (40, 156, 128), (40, 159, 246), (40, 160, 129), (40, 163, 248), (40, 164, 130), (40, 167, 250), (40, 168, 131), (40, 172, 251), (40, 173, 132), (40, 176, 252), (40, 177, 133), (40, 180, 255), (40, 181, 134), (40, 184, 266), (40, 185, 135), (40, 188, 267), (40, 189, 136), (40, 192, 268), (40, 193, 137)]
def lk_m_7 : List (Nat × Nat × Nat) := [(40, 196, 269), (40, 197, 138), (40, 200, 270)]
def lk_mw (q : Nat × Nat × Nat) : Cond := .methodLink (am_on q.1) q.2.1 (pg_nm q.2.2)
set_option maxRecDepth 100000 in
theorem lk_m_0_ok : ∀ w ∈ lk_m_0.map lk_mw, w ∈ lw_tbl := lk_sub [1191, 1195, 633, 637, 709, 713, 736, 788, 798, 802, 830, 806, 824, 810, 815, 819, 717, 720, 723, 919, 889, 897, 901, 893, 905, 941, 958, 1037, 1041, 1047, 969, 953, 954, 964, 965, 970, 959, 963, 1020, 982] rfl
set_option maxRecDepth 100000 in
theorem lk_m_1_ok : ∀ w ∈ lk_m_1.map lk_mw, w ∈ lw_tbl := lk_sub [986, 987, 991, 1066, 597, 864, 996, 838, 676, 580, 576, 584, 620, 656, 593, 672, 588, 625, 629, 130, 402, 417, 427, 444, 572, 605, 609, 612, 616, 644, 652, 664, 668, 681, 689, 705, 727, 731, 834, 849] rfl
set_option maxRecDepth 100000 in
theorem lk_m_2_ok : ∀ w ∈ lk_m_2.map lk_mw, w ∈ lw_tbl := lk_sub [857, 860, 872, 880, 884, 907, 915, 924, 932, 936, 949, 978, 992, 1008, 1016, 1025, 1033, 1051, 1058, 1062, 1076, 1087, 1097, 1110, 1114, 1122, 1129, 1140, 1145, 1148, 1152, 1160, 1164, 1168, 1175, 1179, 1338, 1370, 1366, 1580] rfl
set_option maxRecDepth 100000 in
theorem lk_m_3_ok : ∀ w ∈ lk_m_3.map lk_mw, w ∈ lw_tbl := lk_sub [1353, 1345, 1349, 1361, 1375, 1387, 1395, 1399, 1412, 1416, 1408, 1431, 1439, 1460, 1464, 1469, 1456, 1486, 1482, 1514, 1490, 1518, 1498, 1510, 1506, 1502, 1478, 1494, 1474, 1428, 1424, 1420, 1527, 1536, 1544, 1566, 1569, 1557, 1562, 1573] rfl
set_option maxRecDepth 100000 in
theorem lk_m_4_ok : ∀ w ∈ lk_m_4.map lk_mw, w ∈ lw_tbl := lk_sub [1553, 1577, 1587, 1599, 1603, 1611, 1615, 1627, 1630, 1646, 1642, 1638, 1658, 1662, 1675, 1679, 1683, 1723, 1730, 1737, 1746, 1758, 1762, 1777, 1781, 1773, 1769, 1789, 1797, 1785, 1805, 1793, 1801, 122, 1217, 564, 1333, 568, 1341, 601] rfl
set_option maxRecDepth 100000 in
theorem lk_m_5_ok : ∀ w ∈ lk_m_5.map lk_mw, w ∈ lw_tbl := lk_sub [1357, 640, 1379, 648, 1383, 660, 1391, 677, 1403, 685, 1435, 693, 1443, 697, 1447, 701, 1452, 845, 1522, 853, 1531, 868, 1540, 876, 1548, 911, 1583, 920, 1591, 928, 1595, 945, 1607, 974, 1634, 1000, 1650, 1004, 1654, 1012] rfl
set_option maxRecDepth 100000 in
theorem lk_m_6_ok : ∀ w ∈ lk_m_6.map lk_mw, w ∈ lw_tbl := lk_sub [1666, 1021, 1619, 1029, 1623, 1052, 1670, 1071, 1687, 1079, 1692, 1083, 1696, 1089, 1701, 1093, 1705, 1102, 1711, 1106, 1715, 1118, 1719, 1125, 1726, 1132, 1733, 1136, 1741, 1141, 1747, 1156, 1751, 1171, 1765, 1199, 1809, 1203, 1813, 1207] rfl
set_option maxRecDepth 100000 in
theorem lk_m_7_ok : ∀ w ∈ lk_m_7.map lk_mw, w ∈ lw_tbl := lk_sub [1817, 1211, 1821] rfl
def lk_m : List (Nat × Nat × Nat) := lk_m_0 ++ lk_m_1 ++ lk_m_2 ++ lk_m_3 ++ lk_m_4 ++ lk_m_5 ++ lk_m_6 ++ lk_m_7
theorem lk_m_ok : ∀ q ∈ lk_m, lk_mw q ∈ lw_tbl := by
  intro qq hq
  simp only [lk_m, List.mem_append] at hq
  rcases hq with ((((((hq | hq) | hq) | hq) | hq) | hq) | hq) | hq
  · exact lk_m_0_ok _ (List.mem_map_of_mem hq)
  · exact lk_m_1_ok _ (List.mem_map_of_mem hq)
  · exact lk_m_2_ok _ (List.mem_map_of_mem hq)
  · exact lk_m_3_ok _ (List.mem_map_of_mem hq)
  · exact lk_m_4_ok _ (List.mem_map_of_mem hq)
  · exact lk_m_5_ok _ (List.mem_map_of_mem hq)
  · exact lk_m_6_ok _ (List.mem_map_of_mem hq)
  · exact lk_m_7_ok _ (List.mem_map_of_mem hq)
def lk_c_0 : List (Nat × Nat × Int) := [(7, 38, 2147483647), (11, 312, 1103515245), (12, 334, 1103515245), (41, 265, 1431655765), (41, 266, 858993459), (41, 267, 252645135)]
def lk_cw (q : Nat × Nat × Int) : Cond := .constant (am_on q.1) q.2.1 (Int32.ofInt q.2.2)
set_option maxRecDepth 100000 in
theorem lk_c_0_ok : ∀ w ∈ lk_c_0.map lk_cw, w ∈ lw_tbl := lk_sub [592, 1088, 1700, 1044, 1045, 1046] rfl
def lk_c : List (Nat × Nat × Int) := lk_c_0
theorem lk_c_ok : ∀ q ∈ lk_c, lk_cw q ∈ lw_tbl := by
  intro qq hq
  simp only [lk_c, List.mem_append] at hq
  exact lk_c_0_ok _ (List.mem_map_of_mem hq)
def lk_l_0 : List (Nat × Nat × Int) := [(5, 19, 4194304), (5, 21, 2), (5, 117, 4), (11, 230, -1), (11, 288, -4), (11, 290, 4194304), (11, 298, -2), (11, 320, -9), (12, 76, 4), (12, 86, 99), (12, 103, 3), (12, 127, 8), (12, 143, 255), (12, 145, 97), (12, 147, 122), (12, 149, 48), (12, 151, 57), (12, 232, 6), (12, 237, 9999), (12, 245, 68719476736), (12, 263, -1), (12, 321, -4), (12, 332, -2), (12, 338, 2), (12, 340, -9), (12, 351, 12), (12, 365, 7), (12, 367, 10), (12, 369, 14), (40, 53, 4294967295)]
def lk_lw (q : Nat × Nat × Int) : Cond := .constantLong (am_on q.1) q.2.1 (Int64.ofInt q.2.2)
set_option maxRecDepth 100000 in
theorem lk_l_0_ok : ∀ w ∈ lk_l_0.map lk_lw, w ∈ lw_tbl := lk_sub [888, 910, 906, 883, 1056, 1057, 1075, 1101, 1374, 1337, 1365, 1407, 1451, 1467, 1468, 1472, 1473, 1526, 1535, 1561, 1552, 1674, 1691, 1709, 1710, 1745, 1755, 1756, 1757, 1825] rfl
def lk_l : List (Nat × Nat × Int) := lk_l_0
theorem lk_l_ok : ∀ q ∈ lk_l, lk_lw q ∈ lw_tbl := by
  intro qq hq
  simp only [lk_l, List.mem_append] at hq
  exact lk_l_0_ok _ (List.mem_map_of_mem hq)
def am_sx : Nat → String := fun k => match k with
  | 0 => "first copy shared all"
  | 1 => "body memory root"
  | 2 => "each root share"
  | 3 => "maker copy both none"
  | 4 => "free needed"
  | 5 => "rests bears"
  | 6 => "owes owns blame vote wed leave sleep"
  | 7 => "if"
  | 8 => "or"
  | 9 => "and"
  | 10 => "not"
  | _ => "day made gap kind amount held"
def lk_s_0 : List (Nat × Nat × Nat) := [(3, 24, 0), (3, 26, 1), (3, 28, 2), (3, 30, 3), (3, 32, 4), (3, 34, 5), (4, 36, 6), (4, 49, 7), (4, 66, 8), (4, 75, 9), (4, 77, 10), (4, 90, 11)]
def lk_sw (q : Nat × Nat × Nat) : Cond := .stringRef (am_on q.1) q.2.1 (am_sx q.2.2)
set_option maxRecDepth 100000 in
theorem lk_s_0_ok : ∀ w ∈ lk_s_0.map lk_sw, w ∈ lw_tbl := lk_sub [791, 792, 793, 794, 795, 796, 735, 797, 829, 828, 814, 823] rfl
def lk_s : List (Nat × Nat × Nat) := lk_s_0
theorem lk_s_ok : ∀ q ∈ lk_s, lk_sw q ∈ lw_tbl := by
  intro qq hq
  simp only [lk_s, List.mem_append] at hq
  exact lk_s_0_ok _ (List.mem_map_of_mem hq)
def am_gx : Nat → String := fun k => match k with
  | 0 => "BEARS"
  | 1 => "KNOWS"
  | 2 => "SHARES"
  | _ => "TELLS"
def lk_g_0 : List (Nat × Nat × Nat) := [(0, 32, 0), (0, 35, 1), (0, 38, 2), (0, 41, 3)]
def lk_gw (q : Nat × Nat × Nat) : Cond := .fieldLink (am_on q.1) q.2.1 "OneIsTwo$Actor" (am_gx q.2.2) "[I"
set_option maxRecDepth 100000 in
theorem lk_g_0_ok : ∀ w ∈ lk_g_0.map lk_gw, w ∈ lw_tbl := lk_sub [1183, 1185, 1187, 1189] rfl
def lk_g : List (Nat × Nat × Nat) := lk_g_0
theorem lk_g_ok : ∀ q ∈ lk_g, lk_gw q ∈ lw_tbl := by
  intro qq hq
  simp only [lk_g, List.mem_append] at hq
  exact lk_g_0_ok _ (List.mem_map_of_mem hq)
def lk_n_0 : List (Nat × Nat × String) := [(4, 7, "OneIsTwo$Law"), (10, 9, "OneIsTwo$Person"), (10, 17, "OneIsTwo$Event"), (10, 23, "OneIsTwo$Claim"), (10, 29, "OneIsTwo$Wedding"), (10, 42, "OneIsTwo$Law"), (11, 7, "OneIsTwo$World"), (11, 22, "OneIsTwo$Ledger"), (11, 34, "OneIsTwo$Sides"), (11, 41, "OneIsTwo$Minds"), (11, 52, "OneIsTwo$LawReader"), (11, 61, "OneIsTwo$Actor"), (11, 68, "[[J"), (11, 73, "[[I"), (40, 7, "OneIsTwo"), (40, 10, "OneIsTwoModel")]
def lk_nw (q : Nat × Nat × String) : Cond := .classLink (am_on q.1) q.2.1 q.2.2
set_option maxRecDepth 100000 in
theorem lk_n_0_ok : ∀ w ∈ lk_n_0.map lk_nw, w ∈ lw_tbl := lk_sub [448, 134, 136, 138, 140, 142, 128, 400, 415, 425, 442, 475, 502, 504, 120, 1215] rfl
def lk_n : List (Nat × Nat × String) := lk_n_0
theorem lk_n_ok : ∀ q ∈ lk_n, lk_nw q ∈ lw_tbl := by
  intro qq hq
  simp only [lk_n, List.mem_append] at hq
  exact lk_n_0_ok _ (List.mem_map_of_mem hq)
def lk_o_0 : List (Nat × Nat) := [(0, 3), (1, 1), (2, 1), (3, 3), (4, 1), (5, 5), (6, 3), (7, 3), (8, 3), (9, 1), (10, 3), (11, 1), (12, 1)]
def lk_ow (q : Nat × Nat) : Cond := .methodLink (am_on q.1) q.2 objectInit
set_option maxRecDepth 100000 in
theorem lk_o_0_ok : ∀ w ∈ lk_o_0.map lk_ow, w ∈ lw_tbl := lk_sub [480, 271, 247, 147, 447, 405, 430, 171, 420, 306, 133, 125, 1220] rfl
def lk_o : List (Nat × Nat) := lk_o_0
theorem lk_o_ok : ∀ q ∈ lk_o, lk_ow q ∈ lw_tbl := by
  intro qq hq
  simp only [lk_o, List.mem_append] at hq
  exact lk_o_0_ok _ (List.mem_map_of_mem hq)
def lk_a_0 : List (Nat × Nat) := [(3, 40), (10, 118)]
def lk_aw (q : Nat × Nat) : Cond := .methodLink (am_on q.1) q.2 arraycopyName
set_option maxRecDepth 100000 in
theorem lk_a_0_ok : ∀ w ∈ lk_a_0.map lk_aw, w ∈ lw_tbl := lk_sub [842, 1070] rfl
def lk_a : List (Nat × Nat) := lk_a_0
theorem lk_a_ok : ∀ q ∈ lk_a, lk_aw q ∈ lw_tbl := by
  intro qq hq
  simp only [lk_a, List.mem_append] at hq
  exact lk_a_0_ok _ (List.mem_map_of_mem hq)
def lk_t_0 : List (Nat × Nat × Nat) := [(4, 104, 0), (4, 109, 1)]
def lk_tw (q : Nat × Nat × Nat) : Cond := .methodLink (am_on q.1) q.2.1 (match q.2.2 with | 0 => ⟨"java/lang/String", "length", "()I"⟩ | _ => ⟨"java/lang/String", "charAt", "(I)C"⟩)
set_option maxRecDepth 100000 in
theorem lk_t_0_ok : ∀ w ∈ lk_t_0.map lk_tw, w ∈ lw_tbl := lk_sub [740, 750] rfl
def lk_t : List (Nat × Nat × Nat) := lk_t_0
theorem lk_t_ok : ∀ q ∈ lk_t, lk_tw q ∈ lw_tbl := by
  intro qq hq
  simp only [lk_t, List.mem_append] at hq
  exact lk_t_0_ok _ (List.mem_map_of_mem hq)
/-- the words of a method: its code, its class made ready, how it is found -/
def pg_w (y : Nat) : List Cond := [.code (pg_nm y) (pg_by y) (pg_mx y) (pg_rt y), .initialized (pg_nm y).cls] ++ (match pg_is y with | true => [.static (pg_nm y)] | false => if (pg_nm y).name = "<init>" then [.instanceMethod (pg_nm y)] else [.instanceMethod (pg_nm y), .selects (pg_nm y).cls (pg_nm y) (pg_nm y)])
set_option maxRecDepth 100000 in
theorem pg_w_0 : ∀ w ∈ [0, 1, 2, 3, 4, 5, 6, 7, 8, 9, 10, 11, 12, 13, 14, 15].flatMap pg_w, w ∈ lw_tbl := lk_sub [479, 111, 478, 1178, 111, 1176, 1177, 1182, 111, 1180, 1181, 1194, 111, 1193, 32, 1198, 111, 1197, 33, 270, 105, 269, 867, 105, 865, 866, 246, 104, 245, 600, 104, 598, 599, 146, 102, 145, 790, 102, 789, 712, 102, 710, 711, 827, 102, 825, 826, 833, 102, 831, 832, 841, 102, 839, 840, 632, 102, 630, 631] rfl
set_option maxRecDepth 100000 in
theorem pg_w_1 : ∀ w ∈ [16, 17, 18, 19, 20, 21, 22, 23, 24, 25, 26, 27, 28, 29, 30, 31].flatMap pg_w, w ∈ lw_tbl := lk_sub [636, 102, 635, 3, 639, 102, 638, 446, 110, 445, 708, 110, 706, 707, 730, 110, 728, 729, 734, 110, 732, 733, 805, 110, 804, 9, 809, 110, 808, 10, 813, 110, 812, 11, 818, 110, 817, 12, 822, 110, 821, 13, 716, 110, 715, 5, 726, 110, 725, 6, 801, 110, 800, 8, 739, 110, 738, 7, 719, 110, 718] rfl
set_option maxRecDepth 100000 in
theorem pg_w_2 : ∀ w ∈ [32, 33, 34, 35, 36, 37, 38, 39, 40, 41, 42, 43, 44, 45, 46, 47].flatMap pg_w, w ∈ lw_tbl := lk_sub [722, 110, 721, 404, 107, 403, 909, 107, 908, 918, 107, 916, 917, 1113, 107, 1111, 1112, 887, 107, 885, 886, 892, 107, 891, 14, 904, 107, 903, 15, 429, 109, 428, 939, 109, 937, 938, 944, 109, 943, 16, 1028, 109, 1026, 1027, 1036, 109, 1034, 1035, 1040, 109, 1039, 23, 1050, 109, 1049, 24, 952, 109, 950, 951] rfl
set_option maxRecDepth 100000 in
theorem pg_w_3 : ∀ w ∈ [48, 49, 50, 51, 52, 53, 54, 55, 56, 57, 58, 59, 60, 61, 62, 63].flatMap pg_w, w ∈ lw_tbl := lk_sub [973, 109, 972, 20, 968, 109, 967, 19, 957, 109, 956, 17, 962, 109, 961, 18, 1011, 109, 1009, 1010, 1019, 109, 1017, 1018, 170, 103, 169, 591, 103, 589, 590, 1069, 103, 1067, 1068, 419, 108, 418, 981, 108, 979, 980, 985, 108, 984, 21, 990, 108, 989, 22, 305, 106, 304, 999, 106, 997, 998, 132, 101, 131] rfl
set_option maxRecDepth 100000 in
theorem pg_w_4 : ∀ w ∈ [64, 65, 66, 67, 68, 69, 70, 71, 72, 73, 74, 75, 76, 77, 78, 79].flatMap pg_w, w ∈ lw_tbl := lk_sub [1065, 101, 1063, 1064, 608, 101, 606, 607, 875, 101, 873, 874, 935, 101, 933, 934, 615, 101, 613, 614, 667, 101, 665, 666, 675, 101, 673, 674, 579, 101, 577, 578, 583, 101, 581, 582, 575, 101, 573, 574, 619, 101, 617, 618, 655, 101, 653, 654, 647, 101, 645, 646, 671, 101, 669, 670, 587, 101, 586, 0, 659, 101, 658, 4] rfl
set_option maxRecDepth 100000 in
theorem pg_w_5 : ∀ w ∈ [80, 81, 82, 83, 84, 85, 86, 87, 88, 89, 90, 91, 92, 93, 94, 95].flatMap pg_w, w ∈ lw_tbl := lk_sub [596, 101, 595, 1, 863, 101, 861, 862, 927, 101, 925, 926, 995, 101, 993, 994, 837, 101, 835, 836, 623, 101, 622, 2, 628, 101, 626, 627, 852, 101, 850, 851, 900, 101, 898, 899, 684, 101, 682, 683, 692, 101, 690, 691, 124, 100, 123, 567, 100, 565, 566, 571, 100, 569, 570, 604, 100, 602, 603, 643, 100, 641, 642] rfl
set_option maxRecDepth 100000 in
theorem pg_w_6 : ∀ w ∈ [96, 97, 98, 99, 100, 101, 102, 103, 104, 105, 106, 107, 108, 109, 110, 111].flatMap pg_w, w ∈ lw_tbl := lk_sub [651, 100, 649, 650, 663, 100, 661, 662, 680, 100, 678, 679, 688, 100, 686, 687, 696, 100, 694, 695, 700, 100, 698, 699, 704, 100, 702, 703, 848, 100, 846, 847, 856, 100, 854, 855, 871, 100, 869, 870, 879, 100, 877, 878, 914, 100, 912, 913, 923, 100, 921, 922, 931, 100, 929, 930, 948, 100, 946, 947, 977, 100, 975, 976] rfl
set_option maxRecDepth 100000 in
theorem pg_w_7 : ∀ w ∈ [112, 113, 114, 115, 116, 117, 118, 119, 120, 121, 122, 123, 124, 125, 126, 127].flatMap pg_w, w ∈ lw_tbl := lk_sub [1003, 100, 1001, 1002, 1007, 100, 1005, 1006, 1015, 100, 1013, 1014, 1024, 100, 1022, 1023, 1032, 100, 1030, 1031, 1055, 100, 1053, 1054, 1061, 100, 1060, 25, 1074, 100, 1072, 1073, 1082, 100, 1080, 1081, 1086, 100, 1084, 1085, 1092, 100, 1090, 1091, 1096, 100, 1094, 1095, 1105, 100, 1103, 1104, 1109, 100, 1107, 1108, 1100, 100, 1099, 26, 1117, 100, 1116, 27] rfl
set_option maxRecDepth 100000 in
theorem pg_w_8 : ∀ w ∈ [128, 129, 130, 131, 132, 133, 134, 135, 136, 137, 138, 139, 140, 141, 142, 143].flatMap pg_w, w ∈ lw_tbl := lk_sub [1121, 100, 1119, 1120, 1128, 100, 1126, 1127, 1135, 100, 1133, 1134, 1139, 100, 1137, 1138, 1144, 100, 1142, 1143, 1159, 100, 1157, 1158, 1174, 100, 1172, 1173, 1202, 100, 1200, 1201, 1206, 100, 1204, 1205, 1210, 100, 1208, 1209, 1214, 100, 1212, 1213, 1151, 100, 1150, 28, 1155, 100, 1154, 29, 1163, 100, 1162, 30, 1167, 100, 1166, 31, 1170, 100, 1169] rfl
set_option maxRecDepth 100000 in
theorem pg_w_9 : ∀ w ∈ [144, 145, 146, 147, 148, 149, 150, 151, 152, 153, 154, 155, 156, 157, 158, 159].flatMap pg_w, w ∈ lw_tbl := lk_sub [1131, 100, 1130, 1124, 100, 1123, 1147, 100, 1146, 882, 100, 881, 859, 100, 858, 611, 100, 610, 1219, 112, 1218, 1340, 112, 1339, 1373, 112, 1372, 39, 1364, 112, 1363, 37, 1369, 112, 1368, 38, 1415, 112, 1414, 45, 1402, 112, 1401, 43, 1582, 112, 1581, 1579, 112, 1578, 1356, 112, 1355, 36] rfl
set_option maxRecDepth 100000 in
theorem pg_w_10 : ∀ w ∈ [160, 161, 162, 163, 164, 165, 166, 167, 168, 169, 170, 171, 172, 173, 174, 175].flatMap pg_w, w ∈ lw_tbl := lk_sub [1336, 112, 1334, 1335, 1348, 112, 1347, 34, 1352, 112, 1351, 35, 1344, 112, 1342, 1343, 1378, 112, 1377, 40, 1360, 112, 1358, 1359, 1382, 112, 1380, 1381, 1390, 112, 1389, 41, 1386, 112, 1384, 1385, 1398, 112, 1397, 42, 1394, 112, 1392, 1393, 1434, 112, 1433, 49, 1411, 112, 1410, 44, 1406, 112, 1404, 1405, 1442, 112, 1441, 50, 1438, 112, 1436, 1437] rfl
set_option maxRecDepth 100000 in
theorem pg_w_11 : ∀ w ∈ [176, 177, 178, 179, 180, 181, 182, 183, 184, 185, 186, 187, 188, 189, 190, 191].flatMap pg_w, w ∈ lw_tbl := lk_sub [1446, 112, 1444, 1445, 1450, 112, 1448, 1449, 1463, 112, 1462, 52, 1466, 112, 1465, 1471, 112, 1470, 1459, 112, 1458, 51, 1493, 112, 1492, 57, 1517, 112, 1516, 63, 1489, 112, 1488, 56, 1485, 112, 1484, 55, 1481, 112, 1480, 54, 1497, 112, 1496, 58, 1521, 112, 1520, 64, 1513, 112, 1512, 62, 1509, 112, 1508, 61, 1505, 112, 1504, 60] rfl
set_option maxRecDepth 100000 in
theorem pg_w_12 : ∀ w ∈ [192, 193, 194, 195, 196, 197, 198, 199, 200, 201, 202, 203, 204, 205, 206, 207].flatMap pg_w, w ∈ lw_tbl := lk_sub [1501, 112, 1500, 59, 1477, 112, 1476, 53, 1455, 112, 1453, 1454, 1430, 112, 1429, 1427, 112, 1426, 48, 1423, 112, 1422, 47, 1419, 112, 1418, 46, 1530, 112, 1529, 65, 1525, 112, 1523, 1524, 1539, 112, 1538, 66, 1534, 112, 1532, 1533, 1547, 112, 1546, 67, 1543, 112, 1541, 1542, 1576, 112, 1575, 72, 1560, 112, 1559, 69, 1572, 112, 1571, 71] rfl
set_option maxRecDepth 100000 in
theorem pg_w_13 : ∀ w ∈ [208, 209, 210, 211, 212, 213, 214, 215, 216, 217, 218, 219, 220, 221, 222, 223].flatMap pg_w, w ∈ lw_tbl := lk_sub [1568, 112, 1567, 1565, 112, 1564, 70, 1556, 112, 1555, 68, 1551, 112, 1549, 1550, 1590, 112, 1589, 73, 1586, 112, 1584, 1585, 1602, 112, 1601, 74, 1594, 112, 1592, 1593, 1606, 112, 1605, 75, 1598, 112, 1596, 1597, 1614, 112, 1613, 76, 1618, 112, 1617, 77, 1610, 112, 1608, 1609, 1622, 112, 1620, 1621, 1629, 112, 1628, 1633, 112, 1632, 78] rfl
set_option maxRecDepth 100000 in
theorem pg_w_14 : ∀ w ∈ [224, 225, 226, 227, 228, 229, 230, 231, 232, 233, 234, 235, 236, 237, 238, 239].flatMap pg_w, w ∈ lw_tbl := lk_sub [1626, 112, 1624, 1625, 1649, 112, 1648, 81, 1645, 112, 1644, 80, 1641, 112, 1640, 79, 1637, 112, 1635, 1636, 1653, 112, 1651, 1652, 1661, 112, 1660, 82, 1665, 112, 1664, 83, 1657, 112, 1655, 1656, 1669, 112, 1667, 1668, 1678, 112, 1677, 84, 1686, 112, 1685, 86, 1682, 112, 1681, 85, 1673, 112, 1671, 1672, 1690, 112, 1688, 1689, 1695, 112, 1693, 1694] rfl
set_option maxRecDepth 100000 in
theorem pg_w_15 : ∀ w ∈ [240, 241, 242, 243, 244, 245, 246, 247, 248, 249, 250, 251, 252, 253, 254, 255].flatMap pg_w, w ∈ lw_tbl := lk_sub [1699, 112, 1697, 1698, 1704, 112, 1702, 1703, 1708, 112, 1706, 1707, 1714, 112, 1712, 1713, 1718, 112, 1716, 1717, 1725, 112, 1724, 1722, 112, 1720, 1721, 1732, 112, 1731, 1729, 112, 1727, 1728, 1740, 112, 1739, 87, 1736, 112, 1734, 1735, 1744, 112, 1742, 1743, 1750, 112, 1748, 1749, 1761, 112, 1760, 88, 1764, 112, 1763, 1754, 112, 1752, 1753] rfl
set_option maxRecDepth 100000 in
theorem pg_w_16 : ∀ w ∈ [256, 257, 258, 259, 260, 261, 262, 263, 264, 265, 266, 267, 268, 269, 270, 271].flatMap pg_w, w ∈ lw_tbl := lk_sub [1780, 112, 1779, 91, 1784, 112, 1783, 92, 1776, 112, 1775, 90, 1772, 112, 1771, 89, 1792, 112, 1791, 94, 1788, 112, 1787, 93, 1800, 112, 1799, 96, 1796, 112, 1795, 95, 1808, 112, 1807, 98, 1804, 112, 1803, 97, 1768, 112, 1766, 1767, 1812, 112, 1810, 1811, 1816, 112, 1814, 1815, 1820, 112, 1818, 1819, 1824, 112, 1822, 1823, 1043, 119, 1042] rfl
set_option maxRecDepth 100000 in
theorem pg_w_17 : ∀ w ∈ [272, 273].flatMap pg_w, w ∈ lw_tbl := lk_sub [1078, 118, 1077, 895, 118, 894] rfl
def pg_ys : List (List Nat) := [[0, 1, 2, 3, 4, 5, 6, 7, 8, 9, 10, 11, 12, 13, 14, 15], [16, 17, 18, 19, 20, 21, 22, 23, 24, 25, 26, 27, 28, 29, 30, 31], [32, 33, 34, 35, 36, 37, 38, 39, 40, 41, 42, 43, 44, 45, 46, 47], [48, 49, 50, 51, 52, 53, 54, 55, 56, 57, 58, 59, 60, 61, 62, 63], [64, 65, 66, 67, 68, 69, 70, 71, 72, 73, 74, 75, 76, 77, 78, 79], [80, 81, 82, 83, 84, 85, 86, 87, 88, 89, 90, 91, 92, 93, 94, 95], [96, 97, 98, 99, 100, 101, 102, 103, 104, 105, 106, 107, 108, 109, 110, 111], [112, 113, 114, 115, 116, 117, 118, 119, 120, 121, 122, 123, 124, 125, 126, 127], [128, 129, 130, 131, 132, 133, 134, 135, 136, 137, 138, 139, 140, 141, 142, 143], [144, 145, 146, 147, 148, 149, 150, 151, 152, 153, 154, 155, 156, 157, 158, 159], [160, 161, 162, 163, 164, 165, 166, 167, 168, 169, 170, 171, 172, 173, 174, 175], [176, 177, 178, 179, 180, 181, 182, 183, 184, 185, 186, 187, 188, 189, 190, 191], [192, 193, 194, 195, 196, 197, 198, 199, 200, 201, 202, 203, 204, 205, 206, 207], [208, 209, 210, 211, 212, 213, 214, 215, 216, 217, 218, 219, 220, 221, 222, 223], [224, 225, 226, 227, 228, 229, 230, 231, 232, 233, 234, 235, 236, 237, 238, 239], [240, 241, 242, 243, 244, 245, 246, 247, 248, 249, 250, 251, 252, 253, 254, 255], [256, 257, 258, 259, 260, 261, 262, 263, 264, 265, 266, 267, 268, 269, 270, 271], [272, 273]]
theorem pg_w_ok : ∀ y ∈ pg_ys.flatten, ∀ w ∈ pg_w y, w ∈ lw_tbl := by
  intro y hy w hw
  simp only [pg_ys, List.flatten_cons, List.flatten_nil, List.mem_append] at hy
  rcases hy with hy | hy | hy | hy | hy | hy | hy | hy | hy | hy | hy | hy | hy | hy | hy | hy | hy | hy | hy
  · exact pg_w_0 w (List.mem_flatMap.mpr ⟨y, hy, hw⟩)
  · exact pg_w_1 w (List.mem_flatMap.mpr ⟨y, hy, hw⟩)
  · exact pg_w_2 w (List.mem_flatMap.mpr ⟨y, hy, hw⟩)
  · exact pg_w_3 w (List.mem_flatMap.mpr ⟨y, hy, hw⟩)
  · exact pg_w_4 w (List.mem_flatMap.mpr ⟨y, hy, hw⟩)
  · exact pg_w_5 w (List.mem_flatMap.mpr ⟨y, hy, hw⟩)
  · exact pg_w_6 w (List.mem_flatMap.mpr ⟨y, hy, hw⟩)
  · exact pg_w_7 w (List.mem_flatMap.mpr ⟨y, hy, hw⟩)
  · exact pg_w_8 w (List.mem_flatMap.mpr ⟨y, hy, hw⟩)
  · exact pg_w_9 w (List.mem_flatMap.mpr ⟨y, hy, hw⟩)
  · exact pg_w_10 w (List.mem_flatMap.mpr ⟨y, hy, hw⟩)
  · exact pg_w_11 w (List.mem_flatMap.mpr ⟨y, hy, hw⟩)
  · exact pg_w_12 w (List.mem_flatMap.mpr ⟨y, hy, hw⟩)
  · exact pg_w_13 w (List.mem_flatMap.mpr ⟨y, hy, hw⟩)
  · exact pg_w_14 w (List.mem_flatMap.mpr ⟨y, hy, hw⟩)
  · exact pg_w_15 w (List.mem_flatMap.mpr ⟨y, hy, hw⟩)
  · exact pg_w_16 w (List.mem_flatMap.mpr ⟨y, hy, hw⟩)
  · exact pg_w_17 w (List.mem_flatMap.mpr ⟨y, hy, hw⟩)
  · cases hy
/-- calls and a read across the nest -/
def lk_nm : List (Nat × Nat × Nat × Nat) := [(4, 9, 9, 11), (5, 86, 149, 11), (6, 43, 149, 11), (10, 44, 9, 11), (10, 56, 54, 11), (10, 57, 7, 11), (10, 58, 5, 11), (10, 59, 61, 11), (10, 188, 149, 11), (11, 63, 0, 11)]
def lk_nmw (q : Nat × Nat × Nat × Nat) : Cond := .methodLinkNest (am_on q.1) q.2.1 (pg_nm q.2.2.1) (am_on q.2.2.2)
set_option maxRecDepth 100000 in
theorem lk_nm_ok : ∀ w ∈ lk_nm.map lk_nmw, w ∈ lw_tbl := lk_sub [449, 896, 940, 144, 168, 244, 268, 303, 624, 477] rfl
def lk_fn : Cond := .fieldLinkNest "OneIsTwo" 181 "OneIsTwo$LawReader" "at" "I" "OneIsTwo"
set_option maxRecDepth 100000 in
theorem lk_fn_ok : lk_fn ∈ lw_tbl := List.mem_of_getElem? (i := 455) (by decide +kernel)
/-! ===== END by program ===== -/
end
section
/-! ===== each instruction is the one that stands in the method's bytes, and its links are among the tables' words ===== -/
def am_P (y i : Nat) : Nat := (pg_hi y i).1
def am_q (y i : Nat) : Nat × Nat := ((pg_hi y i).2.1, (pg_hi y i).2.2.1)
def am_le (y i : Nat) : Nat := (pg_hi y i).2.2.2
/-- the machine's own instruction -/
def am_rl (P : Nat → Nat) (pc : Nat) (q : Nat × Nat) (ins : Instr) : Instr := match ins with
  | .iconst v => (match q.1 with | 0 => .iconst v | 1 => .bipush v | 2 => .sipush v | 3 => .ldc q.2 | _ => .ldc_w q.2)
  | .bipush v => (match q.1 with | 0 => .iconst v | 1 => .bipush v | 2 => .sipush v | 3 => .ldc q.2 | _ => .ldc_w q.2)
  | .goto_w v => (match q.1 with | 0 => .lconst (Fin.ofNat 2 v.toNat) | _ => .ldc2_w q.2)
  | .jsr_w _ => .ldc2_w q.2
  | .ldc _ => .ldc q.2
  | .getstatic _ => .getstatic q.2
  | .iload k => (match q.1 with | 0 => .iload k | _ => .iload_n (Fin.ofNat 4 k))
  | .lload k => (match q.1 with | 0 => .lload k | _ => .lload_n (Fin.ofNat 4 k))
  | .aload k => (match q.1 with | 0 => .aload k | _ => .aload_n (Fin.ofNat 4 k))
  | .istore k => (match q.1 with | 0 => .istore k | _ => .istore_n (Fin.ofNat 4 k))
  | .lstore k => (match q.1 with | 0 => .lstore k | _ => .lstore_n (Fin.ofNat 4 k))
  | .astore k => (match q.1 with | 0 => .astore k | _ => .astore_n (Fin.ofNat 4 k))
  | .goto t => .goto ((P t.toNat : Int) - pc)
  | .if_icmp c t => .if_icmp c ((P t.toNat : Int) - pc)
  | .ifCond c t => .ifCond c ((P t.toNat : Int) - pc)
  | .tableswitch d lo hi ts => .tableswitch ((P d.toNat : Int) - pc) lo hi (ts.map fun t => (P t.toNat : Int) - pc)
  | .lookupswitch d ps => .lookupswitch ((P d.toNat : Int) - pc) (ps.map fun t => (t.1, (P t.2.toNat : Int) - pc))
  | .getfield _ => .getfield q.2
  | .putfield _ => .putfield q.2
  | .saload => .iaload
  | .sastore => .arraylength
  | .monitorenter => .invokespecial q.2
  | .monitorexit => .invokestatic q.2
  | .i2f => .invokestatic q.2
  | .i2d => .invokestatic q.2
  | .caload => .invokevirtual q.2
  | .castore => .invokevirtual q.2
  | .new _ => .new q.2
  | .anewarray _ => .anewarray q.2
  | .multianewarray _ _ => .multianewarray q.2 2
  | .invokestatic _ => (match q.1 with | 0 => .invokevirtual q.2 | _ => .invokestatic q.2)
  | .invokespecial _ => .invokespecial q.2
  | .freturn => .ireturn
  | i => i
/-- how long an instruction is -/
def am_ll (q : Nat × Nat) (n : Nat) (ins : Instr) : Nat := match ins with
  | .iconst _ => (match q.1 with | 0 => 1 | 1 => 2 | 2 => 3 | 3 => 2 | _ => 3)
  | .bipush _ => (match q.1 with | 0 => 1 | 1 => 2 | 2 => 3 | 3 => 2 | _ => 3)
  | .goto_w _ => (match q.1 with | 0 => 1 | _ => 3)
  | .jsr_w _ => 3
  | .ldc _ => 2
  | .getstatic _ => 3
  | .iload _ => (match q.1 with | 0 => 2 | _ => 1)
  | .lload _ => (match q.1 with | 0 => 2 | _ => 1)
  | .aload _ => (match q.1 with | 0 => 2 | _ => 1)
  | .istore _ => (match q.1 with | 0 => 2 | _ => 1)
  | .lstore _ => (match q.1 with | 0 => 2 | _ => 1)
  | .astore _ => (match q.1 with | 0 => 2 | _ => 1)
  | .iinc _ _ => 3
  | .goto _ => 3
  | .if_icmp _ _ => 3
  | .ifCond _ _ => 3
  | .tableswitch _ _ _ _ => n
  | .lookupswitch _ _ => n
  | .getfield _ => 3
  | .putfield _ => 3
  | .new _ => 3
  | .anewarray _ => 3
  | .newarray _ => 2
  | .multianewarray _ _ => 4
  | .invokestatic _ => 3
  | .invokespecial _ => 3
  | .monitorenter => 3
  | .monitorexit => 3
  | .i2f => 3
  | .i2d => 3
  | .caload => 3
  | .castore => 3
  | _ => 1
/-- how many parameters a method's text tells -/
def am_ar (y : Nat) : Option Nat := (parseMethodDescriptor (pg_nm y).desc).map fun d => d.parameters.length
/-- what a call asks of the tables: the method is one of ours, its numbers are its text's -/
def am_cok (y : Nat) (k : Bool) : Bool :=
  (pg_ys.flatten.contains y) && (pg_is y == k) && (decide ((pg_mx y) ≤ 40)) &&
  (match am_ar y with | some n => (pg_sg y).1 == (if k then n else n + 1) | none => false) &&
  (match pg_rt y with | none => (pg_sg y).2 == 0 | some .long => (pg_sg y).2 == 2 | some (.object _) => (pg_sg y).2 == 3 | some .int => (pg_sg y).2 == 1 | some .boolean => (pg_sg y).2 == 1 | _ => false)
/-- the links of an instruction of a method y of class o are among the words -/
def am_lkc (y o : Nat) (q : Nat × Nat) (ins : Instr) : Bool := match ins with
  | .iconst v => decide (0 ≤ v) && (match q.1 with | 0 => true | 1 => decide (v < 128) | 2 => decide (v < 32768) | _ => lk_c.contains (o, q.2, v))
  | .bipush v => decide (v < 0) && (match q.1 with | 0 => true | 1 => decide (-129 < v) | 2 => decide (-32769 < v) | _ => lk_c.contains (o, q.2, v))
  | .goto_w v => decide (0 ≤ v) && (match q.1 with | 0 => decide (v < 2) | _ => lk_l.contains (o, q.2, v))
  | .jsr_w v => lk_l.contains (o, q.2, v)
  | .ldc k => lk_s.contains (o, q.2, k)
  | .getstatic k => lk_g.contains (o, q.2, k) && decide (o = 0)
  | .iload k => decide (q.1 = 0 ∨ k < 4)
  | .lload k => decide (q.1 = 0 ∨ k < 4)
  | .aload k => decide (q.1 = 0 ∨ k < 4)
  | .istore k => decide ((q.1 = 0 ∨ k < 4) ∧ k < pg_mx y)
  | .lstore k => decide ((q.1 = 0 ∨ k < 4) ∧ k + 1 < pg_mx y)
  | .astore k => decide ((q.1 = 0 ∨ k < 4) ∧ k < pg_mx y)
  | .iinc k _ => decide (k < pg_mx y)
  | .tableswitch _ lo hi ts => decide (0 ≤ lo ∧ hi - lo + 1 = ts.toList.length ∧ hi < 1000)
  | .lookupswitch _ ps => ps.toList.all (fun t => decide (0 ≤ t.1 ∧ t.1 < 100000)) && (ps.toList.zip (ps.toList.drop 1)).all (fun (a, next) => decide (a.1 < next.1))
  | .getfield k => decide (k / 256 < 13) && decide (k / 4 % 64 < am_N (k / 256)) && (match q.1 with
      | 0 => lk_f.contains (o, q.2, k / 256, k / 4 % 64)
      | _ => decide (o = 11 ∧ q.2 = 181 ∧ k / 256 = 4 ∧ k / 4 % 64 = 3)) &&
      (match k % 4, (am_ft (k / 256)).getD (k / 4 % 64) 9 with | 0, 0 => true | 0, 3 => true | 1, 1 => true | 2, 2 => true | _, _ => false)
  | .putfield k => decide (k / 256 < 13) && decide (k / 4 % 64 < am_N (k / 256)) && lk_f.contains (o, q.2, k / 256, k / 4 % 64) && decide ((am_ft (k / 256)).getD (k / 4 % 64) 9 = k % 4) &&
      ((am_T (k / 256) (k / 4 % 64)).2.2.2 == false || (decide (o = k / 256) && decide ((pg_nm y).name = "<init>")))
  | .monitorenter => lk_o.contains (o, q.2)
  | .monitorexit => lk_a.contains (o, q.2)
  | .castore => lk_t.contains (o, q.2, 0)
  | .caload => lk_t.contains (o, q.2, 1)
  | .i2f => lk_m.contains (o, q.2, 272)
  | .i2d => lk_m.contains (o, q.2, 273)
  | .new k => decide (k / 64 < 13) && decide (k % 64 = am_N (k / 64)) && lk_n.contains (o, q.2, am_on (k / 64))
  | .anewarray k => decide (k = 1 ∨ k = 2 ∨ k = 7 ∨ k = 9) && lk_n.contains (o, q.2, am_on k)
  | .multianewarray k _ => (match k with | 0 => lk_n.contains (o, q.2, "[[I") | 1 => lk_n.contains (o, q.2, "[[J") | _ => false)
  | .invokestatic z => (match q.1 with
      | 0 => am_cok z false && lk_m.contains (o, q.2, z) && ((pg_nm z).name != "<init>") && decide (pg_ow z < 13)
      | 1 => am_cok z true && lk_m.contains (o, q.2, z)
      | _ => am_cok z true && lk_nm.contains (o, q.2, z, 11))
  | .invokespecial z => am_cok z false && ((pg_nm z).name == "<init>") && (pg_rt z == none) && (match q.1 with
      | 2 => lk_m.contains (o, q.2, z)
      | _ => lk_nm.contains (o, q.2, z, 11))
  | .ireturn => pg_rt y == some .int
  | .freturn => pg_rt y == some .boolean
  | .lreturn => pg_rt y == some .long
  | .areturn => (match pg_rt y with | some (.object _) => true | _ => false)
  | .return_ => pg_rt y == none
  | .ifCond _ t => decide (0 ≤ t)
  | .if_icmp _ t => decide (0 ≤ t)
  | .goto t => decide (0 ≤ t)
  | _ => true
/-- one instruction of a method -/
def am_ck1 (y i : Nat) : Bool := match pg_cd y i with
  | .nop => true
  | ins => decide (decode (pg_by y) (am_P y i) = .ok (am_rl (am_P y) (am_P y i) (am_q y i) ins, am_ll (am_q y i) (am_le y i) ins)) && am_lkc y (pg_ow y) (am_q y i) ins && decide (am_P y (i + 1) = am_P y i + am_ll (am_q y i) (am_le y i) ins)
def am_chk (y : Nat) : Bool := (List.range (16 * (pg_m y).length)).all (am_ck1 y)
theorem pg_at_ge {α : Type} (d : α) : ∀ (l : List α) (k : Nat), l.length ≤ k → pg_at d l k = d
  | [], _, _ => rfl
  | _ :: l, 0, h => absurd h (by simp)
  | _ :: l, k + 1, h => pg_at_ge d l k (by simpa using h)
theorem am_chk_at {y i : Nat} (h : am_chk y = true) (hn : pg_cd y i ≠ .nop) : am_ck1 y i = true := by
  by_cases hi : i < 16 * (pg_m y).length
  · exact List.all_eq_true.mp h i (List.mem_range.mpr hi)
  · exfalso
    apply hn
    have h1 : (pg_m y).length ≤ i / 16 := by omega
    unfold pg_cd
    rw [pg_at_ge [] (pg_m y) (i / 16) h1]
    rfl
theorem am_chk_f {y i : Nat} {ins : Instr} (h : am_chk y = true) (hc : pg_cd y i = ins) (hn : ins ≠ .nop) :
    decode (pg_by y) (am_P y i) = .ok (am_rl (am_P y) (am_P y i) (am_q y i) ins, am_ll (am_q y i) (am_le y i) ins) ∧ am_lkc y (pg_ow y) (am_q y i) ins = true ∧ am_P y (i + 1) = am_P y i + am_ll (am_q y i) (am_le y i) ins := by
  have h1 := am_chk_at h (by rw [hc]; exact hn)
  unfold am_ck1 at h1
  rw [hc] at h1
  cases ins <;> first | exact absurd rfl hn | (simp only [Bool.and_eq_true, decide_eq_true_eq] at h1; exact ⟨h1.1.1, h1.1.2, h1.2⟩)
set_option maxRecDepth 100000 in
theorem pg_ok_0 : am_chk 0 = true := by decide +kernel
set_option maxRecDepth 100000 in
theorem pg_ok_1 : am_chk 1 = true := by decide +kernel
set_option maxRecDepth 100000 in
theorem pg_ok_2 : am_chk 2 = true := by decide +kernel
set_option maxRecDepth 100000 in
theorem pg_ok_3 : am_chk 3 = true := by decide +kernel
set_option maxRecDepth 100000 in
theorem pg_ok_4 : am_chk 4 = true := by decide +kernel
set_option maxRecDepth 100000 in
theorem pg_ok_5 : am_chk 5 = true := by decide +kernel
set_option maxRecDepth 100000 in
theorem pg_ok_6 : am_chk 6 = true := by decide +kernel
set_option maxRecDepth 100000 in
theorem pg_ok_7 : am_chk 7 = true := by decide +kernel
set_option maxRecDepth 100000 in
theorem pg_ok_8 : am_chk 8 = true := by decide +kernel
set_option maxRecDepth 100000 in
theorem pg_ok_9 : am_chk 9 = true := by decide +kernel
set_option maxRecDepth 100000 in
theorem pg_ok_10 : am_chk 10 = true := by decide +kernel
set_option maxRecDepth 100000 in
theorem pg_ok_11 : am_chk 11 = true := by decide +kernel
set_option maxRecDepth 100000 in
theorem pg_ok_12 : am_chk 12 = true := by decide +kernel
set_option maxRecDepth 100000 in
theorem pg_ok_13 : am_chk 13 = true := by decide +kernel
set_option maxRecDepth 100000 in
theorem pg_ok_14 : am_chk 14 = true := by decide +kernel
set_option maxRecDepth 100000 in
theorem pg_ok_15 : am_chk 15 = true := by decide +kernel
set_option maxRecDepth 100000 in
theorem pg_ok_16 : am_chk 16 = true := by decide +kernel
set_option maxRecDepth 100000 in
theorem pg_ok_17 : am_chk 17 = true := by decide +kernel
set_option maxRecDepth 100000 in
theorem pg_ok_18 : am_chk 18 = true := by decide +kernel
set_option maxRecDepth 100000 in
theorem pg_ok_19 : am_chk 19 = true := by decide +kernel
set_option maxRecDepth 100000 in
theorem pg_ok_20 : am_chk 20 = true := by decide +kernel
set_option maxRecDepth 100000 in
theorem pg_ok_21 : am_chk 21 = true := by decide +kernel
set_option maxRecDepth 100000 in
theorem pg_ok_22 : am_chk 22 = true := by decide +kernel
set_option maxRecDepth 100000 in
theorem pg_ok_23 : am_chk 23 = true := by decide +kernel
set_option maxRecDepth 100000 in
theorem pg_ok_24 : am_chk 24 = true := by decide +kernel
set_option maxRecDepth 100000 in
theorem pg_ok_25 : am_chk 25 = true := by decide +kernel
set_option maxRecDepth 100000 in
theorem pg_ok_26 : am_chk 26 = true := by decide +kernel
set_option maxRecDepth 100000 in
theorem pg_ok_27 : am_chk 27 = true := by decide +kernel
set_option maxRecDepth 100000 in
theorem pg_ok_28 : am_chk 28 = true := by decide +kernel
set_option maxRecDepth 100000 in
theorem pg_ok_29 : am_chk 29 = true := by decide +kernel
set_option maxRecDepth 100000 in
theorem pg_ok_30 : am_chk 30 = true := by decide +kernel
set_option maxRecDepth 100000 in
theorem pg_ok_31 : am_chk 31 = true := by decide +kernel
set_option maxRecDepth 100000 in
theorem pg_ok_32 : am_chk 32 = true := by decide +kernel
set_option maxRecDepth 100000 in
theorem pg_ok_33 : am_chk 33 = true := by decide +kernel
set_option maxRecDepth 100000 in
theorem pg_ok_34 : am_chk 34 = true := by decide +kernel
set_option maxRecDepth 100000 in
theorem pg_ok_35 : am_chk 35 = true := by decide +kernel
set_option maxRecDepth 100000 in
theorem pg_ok_36 : am_chk 36 = true := by decide +kernel
set_option maxRecDepth 100000 in
theorem pg_ok_37 : am_chk 37 = true := by decide +kernel
set_option maxRecDepth 100000 in
theorem pg_ok_38 : am_chk 38 = true := by decide +kernel
set_option maxRecDepth 100000 in
theorem pg_ok_39 : am_chk 39 = true := by decide +kernel
set_option maxRecDepth 100000 in
theorem pg_ok_40 : am_chk 40 = true := by decide +kernel
set_option maxRecDepth 100000 in
theorem pg_ok_41 : am_chk 41 = true := by decide +kernel
set_option maxRecDepth 100000 in
theorem pg_ok_42 : am_chk 42 = true := by decide +kernel
set_option maxRecDepth 100000 in
theorem pg_ok_43 : am_chk 43 = true := by decide +kernel
set_option maxRecDepth 100000 in
theorem pg_ok_44 : am_chk 44 = true := by decide +kernel
set_option maxRecDepth 100000 in
theorem pg_ok_45 : am_chk 45 = true := by decide +kernel
set_option maxRecDepth 100000 in
theorem pg_ok_46 : am_chk 46 = true := by decide +kernel
set_option maxRecDepth 100000 in
theorem pg_ok_47 : am_chk 47 = true := by decide +kernel
set_option maxRecDepth 100000 in
theorem pg_ok_48 : am_chk 48 = true := by decide +kernel
set_option maxRecDepth 100000 in
theorem pg_ok_49 : am_chk 49 = true := by decide +kernel
set_option maxRecDepth 100000 in
theorem pg_ok_50 : am_chk 50 = true := by decide +kernel
set_option maxRecDepth 100000 in
theorem pg_ok_51 : am_chk 51 = true := by decide +kernel
set_option maxRecDepth 100000 in
theorem pg_ok_52 : am_chk 52 = true := by decide +kernel
set_option maxRecDepth 100000 in
theorem pg_ok_53 : am_chk 53 = true := by decide +kernel
set_option maxRecDepth 100000 in
theorem pg_ok_54 : am_chk 54 = true := by decide +kernel
set_option maxRecDepth 100000 in
theorem pg_ok_55 : am_chk 55 = true := by decide +kernel
set_option maxRecDepth 100000 in
theorem pg_ok_56 : am_chk 56 = true := by decide +kernel
set_option maxRecDepth 100000 in
theorem pg_ok_57 : am_chk 57 = true := by decide +kernel
set_option maxRecDepth 100000 in
theorem pg_ok_58 : am_chk 58 = true := by decide +kernel
set_option maxRecDepth 100000 in
theorem pg_ok_59 : am_chk 59 = true := by decide +kernel
set_option maxRecDepth 100000 in
theorem pg_ok_60 : am_chk 60 = true := by decide +kernel
set_option maxRecDepth 100000 in
theorem pg_ok_61 : am_chk 61 = true := by decide +kernel
set_option maxRecDepth 100000 in
theorem pg_ok_62 : am_chk 62 = true := by decide +kernel
set_option maxRecDepth 100000 in
theorem pg_ok_63 : am_chk 63 = true := by decide +kernel
set_option maxRecDepth 100000 in
theorem pg_ok_64 : am_chk 64 = true := by decide +kernel
set_option maxRecDepth 100000 in
theorem pg_ok_65 : am_chk 65 = true := by decide +kernel
set_option maxRecDepth 100000 in
theorem pg_ok_66 : am_chk 66 = true := by decide +kernel
set_option maxRecDepth 100000 in
theorem pg_ok_67 : am_chk 67 = true := by decide +kernel
set_option maxRecDepth 100000 in
theorem pg_ok_68 : am_chk 68 = true := by decide +kernel
set_option maxRecDepth 100000 in
theorem pg_ok_69 : am_chk 69 = true := by decide +kernel
set_option maxRecDepth 100000 in
theorem pg_ok_70 : am_chk 70 = true := by decide +kernel
set_option maxRecDepth 100000 in
theorem pg_ok_71 : am_chk 71 = true := by decide +kernel
set_option maxRecDepth 100000 in
theorem pg_ok_72 : am_chk 72 = true := by decide +kernel
set_option maxRecDepth 100000 in
theorem pg_ok_73 : am_chk 73 = true := by decide +kernel
set_option maxRecDepth 100000 in
theorem pg_ok_74 : am_chk 74 = true := by decide +kernel
set_option maxRecDepth 100000 in
theorem pg_ok_75 : am_chk 75 = true := by decide +kernel
set_option maxRecDepth 100000 in
theorem pg_ok_76 : am_chk 76 = true := by decide +kernel
set_option maxRecDepth 100000 in
theorem pg_ok_77 : am_chk 77 = true := by decide +kernel
set_option maxRecDepth 100000 in
theorem pg_ok_78 : am_chk 78 = true := by decide +kernel
set_option maxRecDepth 100000 in
theorem pg_ok_79 : am_chk 79 = true := by decide +kernel
set_option maxRecDepth 100000 in
theorem pg_ok_80 : am_chk 80 = true := by decide +kernel
set_option maxRecDepth 100000 in
theorem pg_ok_81 : am_chk 81 = true := by decide +kernel
set_option maxRecDepth 100000 in
theorem pg_ok_82 : am_chk 82 = true := by decide +kernel
set_option maxRecDepth 100000 in
theorem pg_ok_83 : am_chk 83 = true := by decide +kernel
set_option maxRecDepth 100000 in
theorem pg_ok_84 : am_chk 84 = true := by decide +kernel
set_option maxRecDepth 100000 in
theorem pg_ok_85 : am_chk 85 = true := by decide +kernel
set_option maxRecDepth 100000 in
theorem pg_ok_86 : am_chk 86 = true := by decide +kernel
set_option maxRecDepth 100000 in
theorem pg_ok_87 : am_chk 87 = true := by decide +kernel
set_option maxRecDepth 100000 in
theorem pg_ok_88 : am_chk 88 = true := by decide +kernel
set_option maxRecDepth 100000 in
theorem pg_ok_89 : am_chk 89 = true := by decide +kernel
set_option maxRecDepth 100000 in
theorem pg_ok_90 : am_chk 90 = true := by decide +kernel
set_option maxRecDepth 100000 in
theorem pg_ok_91 : am_chk 91 = true := by decide +kernel
set_option maxRecDepth 100000 in
theorem pg_ok_92 : am_chk 92 = true := by decide +kernel
set_option maxRecDepth 100000 in
theorem pg_ok_93 : am_chk 93 = true := by decide +kernel
set_option maxRecDepth 100000 in
theorem pg_ok_94 : am_chk 94 = true := by decide +kernel
set_option maxRecDepth 100000 in
theorem pg_ok_95 : am_chk 95 = true := by decide +kernel
set_option maxRecDepth 100000 in
theorem pg_ok_96 : am_chk 96 = true := by decide +kernel
set_option maxRecDepth 100000 in
theorem pg_ok_97 : am_chk 97 = true := by decide +kernel
set_option maxRecDepth 100000 in
theorem pg_ok_98 : am_chk 98 = true := by decide +kernel
set_option maxRecDepth 100000 in
theorem pg_ok_99 : am_chk 99 = true := by decide +kernel
set_option maxRecDepth 100000 in
theorem pg_ok_100 : am_chk 100 = true := by decide +kernel
set_option maxRecDepth 100000 in
theorem pg_ok_101 : am_chk 101 = true := by decide +kernel
set_option maxRecDepth 100000 in
theorem pg_ok_102 : am_chk 102 = true := by decide +kernel
set_option maxRecDepth 100000 in
theorem pg_ok_103 : am_chk 103 = true := by decide +kernel
set_option maxRecDepth 100000 in
theorem pg_ok_104 : am_chk 104 = true := by decide +kernel
set_option maxRecDepth 100000 in
theorem pg_ok_105 : am_chk 105 = true := by decide +kernel
set_option maxRecDepth 100000 in
theorem pg_ok_106 : am_chk 106 = true := by decide +kernel
set_option maxRecDepth 100000 in
theorem pg_ok_107 : am_chk 107 = true := by decide +kernel
set_option maxRecDepth 100000 in
theorem pg_ok_108 : am_chk 108 = true := by decide +kernel
set_option maxRecDepth 100000 in
theorem pg_ok_109 : am_chk 109 = true := by decide +kernel
set_option maxRecDepth 100000 in
theorem pg_ok_110 : am_chk 110 = true := by decide +kernel
set_option maxRecDepth 100000 in
theorem pg_ok_111 : am_chk 111 = true := by decide +kernel
set_option maxRecDepth 100000 in
theorem pg_ok_112 : am_chk 112 = true := by decide +kernel
set_option maxRecDepth 100000 in
theorem pg_ok_113 : am_chk 113 = true := by decide +kernel
set_option maxRecDepth 100000 in
theorem pg_ok_114 : am_chk 114 = true := by decide +kernel
set_option maxRecDepth 100000 in
theorem pg_ok_115 : am_chk 115 = true := by decide +kernel
set_option maxRecDepth 100000 in
theorem pg_ok_116 : am_chk 116 = true := by decide +kernel
set_option maxRecDepth 100000 in
theorem pg_ok_117 : am_chk 117 = true := by decide +kernel
set_option maxRecDepth 100000 in
theorem pg_ok_118 : am_chk 118 = true := by decide +kernel
set_option maxRecDepth 100000 in
theorem pg_ok_119 : am_chk 119 = true := by decide +kernel
set_option maxRecDepth 100000 in
theorem pg_ok_120 : am_chk 120 = true := by decide +kernel
set_option maxRecDepth 100000 in
theorem pg_ok_121 : am_chk 121 = true := by decide +kernel
set_option maxRecDepth 100000 in
theorem pg_ok_122 : am_chk 122 = true := by decide +kernel
set_option maxRecDepth 100000 in
theorem pg_ok_123 : am_chk 123 = true := by decide +kernel
set_option maxRecDepth 100000 in
theorem pg_ok_124 : am_chk 124 = true := by decide +kernel
set_option maxRecDepth 100000 in
theorem pg_ok_125 : am_chk 125 = true := by decide +kernel
set_option maxRecDepth 100000 in
theorem pg_ok_126 : am_chk 126 = true := by decide +kernel
set_option maxRecDepth 100000 in
theorem pg_ok_127 : am_chk 127 = true := by decide +kernel
set_option maxRecDepth 100000 in
theorem pg_ok_128 : am_chk 128 = true := by decide +kernel
set_option maxRecDepth 100000 in
theorem pg_ok_129 : am_chk 129 = true := by decide +kernel
set_option maxRecDepth 100000 in
theorem pg_ok_130 : am_chk 130 = true := by decide +kernel
set_option maxRecDepth 100000 in
theorem pg_ok_131 : am_chk 131 = true := by decide +kernel
set_option maxRecDepth 100000 in
theorem pg_ok_132 : am_chk 132 = true := by decide +kernel
set_option maxRecDepth 100000 in
theorem pg_ok_133 : am_chk 133 = true := by decide +kernel
set_option maxRecDepth 100000 in
theorem pg_ok_134 : am_chk 134 = true := by decide +kernel
set_option maxRecDepth 100000 in
theorem pg_ok_135 : am_chk 135 = true := by decide +kernel
set_option maxRecDepth 100000 in
theorem pg_ok_136 : am_chk 136 = true := by decide +kernel
set_option maxRecDepth 100000 in
theorem pg_ok_137 : am_chk 137 = true := by decide +kernel
set_option maxRecDepth 100000 in
theorem pg_ok_138 : am_chk 138 = true := by decide +kernel
set_option maxRecDepth 100000 in
theorem pg_ok_139 : am_chk 139 = true := by decide +kernel
set_option maxRecDepth 100000 in
theorem pg_ok_140 : am_chk 140 = true := by decide +kernel
set_option maxRecDepth 100000 in
theorem pg_ok_141 : am_chk 141 = true := by decide +kernel
set_option maxRecDepth 100000 in
theorem pg_ok_142 : am_chk 142 = true := by decide +kernel
set_option maxRecDepth 100000 in
theorem pg_ok_143 : am_chk 143 = true := by decide +kernel
set_option maxRecDepth 100000 in
theorem pg_ok_144 : am_chk 144 = true := by decide +kernel
set_option maxRecDepth 100000 in
theorem pg_ok_145 : am_chk 145 = true := by decide +kernel
set_option maxRecDepth 100000 in
theorem pg_ok_146 : am_chk 146 = true := by decide +kernel
set_option maxRecDepth 100000 in
theorem pg_ok_147 : am_chk 147 = true := by decide +kernel
set_option maxRecDepth 100000 in
theorem pg_ok_148 : am_chk 148 = true := by decide +kernel
set_option maxRecDepth 100000 in
theorem pg_ok_149 : am_chk 149 = true := by decide +kernel
set_option maxRecDepth 100000 in
theorem pg_ok_150 : am_chk 150 = true := by decide +kernel
set_option maxRecDepth 100000 in
theorem pg_ok_151 : am_chk 151 = true := by decide +kernel
set_option maxRecDepth 100000 in
theorem pg_ok_152 : am_chk 152 = true := by decide +kernel
set_option maxRecDepth 100000 in
theorem pg_ok_153 : am_chk 153 = true := by decide +kernel
set_option maxRecDepth 100000 in
theorem pg_ok_154 : am_chk 154 = true := by decide +kernel
set_option maxRecDepth 100000 in
theorem pg_ok_155 : am_chk 155 = true := by decide +kernel
set_option maxRecDepth 100000 in
theorem pg_ok_156 : am_chk 156 = true := by decide +kernel
set_option maxRecDepth 100000 in
theorem pg_ok_157 : am_chk 157 = true := by decide +kernel
set_option maxRecDepth 100000 in
theorem pg_ok_158 : am_chk 158 = true := by decide +kernel
set_option maxRecDepth 100000 in
theorem pg_ok_159 : am_chk 159 = true := by decide +kernel
set_option maxRecDepth 100000 in
theorem pg_ok_160 : am_chk 160 = true := by decide +kernel
set_option maxRecDepth 100000 in
theorem pg_ok_161 : am_chk 161 = true := by decide +kernel
set_option maxRecDepth 100000 in
theorem pg_ok_162 : am_chk 162 = true := by decide +kernel
set_option maxRecDepth 100000 in
theorem pg_ok_163 : am_chk 163 = true := by decide +kernel
set_option maxRecDepth 100000 in
theorem pg_ok_164 : am_chk 164 = true := by decide +kernel
set_option maxRecDepth 100000 in
theorem pg_ok_165 : am_chk 165 = true := by decide +kernel
set_option maxRecDepth 100000 in
theorem pg_ok_166 : am_chk 166 = true := by decide +kernel
set_option maxRecDepth 100000 in
theorem pg_ok_167 : am_chk 167 = true := by decide +kernel
set_option maxRecDepth 100000 in
theorem pg_ok_168 : am_chk 168 = true := by decide +kernel
set_option maxRecDepth 100000 in
theorem pg_ok_169 : am_chk 169 = true := by decide +kernel
set_option maxRecDepth 100000 in
theorem pg_ok_170 : am_chk 170 = true := by decide +kernel
set_option maxRecDepth 100000 in
theorem pg_ok_171 : am_chk 171 = true := by decide +kernel
set_option maxRecDepth 100000 in
theorem pg_ok_172 : am_chk 172 = true := by decide +kernel
set_option maxRecDepth 100000 in
theorem pg_ok_173 : am_chk 173 = true := by decide +kernel
set_option maxRecDepth 100000 in
theorem pg_ok_174 : am_chk 174 = true := by decide +kernel
set_option maxRecDepth 100000 in
theorem pg_ok_175 : am_chk 175 = true := by decide +kernel
set_option maxRecDepth 100000 in
theorem pg_ok_176 : am_chk 176 = true := by decide +kernel
set_option maxRecDepth 100000 in
theorem pg_ok_177 : am_chk 177 = true := by decide +kernel
set_option maxRecDepth 100000 in
theorem pg_ok_178 : am_chk 178 = true := by decide +kernel
set_option maxRecDepth 100000 in
theorem pg_ok_179 : am_chk 179 = true := by decide +kernel
set_option maxRecDepth 100000 in
theorem pg_ok_180 : am_chk 180 = true := by decide +kernel
set_option maxRecDepth 100000 in
theorem pg_ok_181 : am_chk 181 = true := by decide +kernel
set_option maxRecDepth 100000 in
theorem pg_ok_182 : am_chk 182 = true := by decide +kernel
set_option maxRecDepth 100000 in
theorem pg_ok_183 : am_chk 183 = true := by decide +kernel
set_option maxRecDepth 100000 in
theorem pg_ok_184 : am_chk 184 = true := by decide +kernel
set_option maxRecDepth 100000 in
theorem pg_ok_185 : am_chk 185 = true := by decide +kernel
set_option maxRecDepth 100000 in
theorem pg_ok_186 : am_chk 186 = true := by decide +kernel
set_option maxRecDepth 100000 in
theorem pg_ok_187 : am_chk 187 = true := by decide +kernel
set_option maxRecDepth 100000 in
theorem pg_ok_188 : am_chk 188 = true := by decide +kernel
set_option maxRecDepth 100000 in
theorem pg_ok_189 : am_chk 189 = true := by decide +kernel
set_option maxRecDepth 100000 in
theorem pg_ok_190 : am_chk 190 = true := by decide +kernel
set_option maxRecDepth 100000 in
theorem pg_ok_191 : am_chk 191 = true := by decide +kernel
set_option maxRecDepth 100000 in
theorem pg_ok_192 : am_chk 192 = true := by decide +kernel
set_option maxRecDepth 100000 in
theorem pg_ok_193 : am_chk 193 = true := by decide +kernel
set_option maxRecDepth 100000 in
theorem pg_ok_194 : am_chk 194 = true := by decide +kernel
set_option maxRecDepth 100000 in
theorem pg_ok_195 : am_chk 195 = true := by decide +kernel
set_option maxRecDepth 100000 in
theorem pg_ok_196 : am_chk 196 = true := by decide +kernel
set_option maxRecDepth 100000 in
theorem pg_ok_197 : am_chk 197 = true := by decide +kernel
set_option maxRecDepth 100000 in
theorem pg_ok_198 : am_chk 198 = true := by decide +kernel
set_option maxRecDepth 100000 in
theorem pg_ok_199 : am_chk 199 = true := by decide +kernel
set_option maxRecDepth 100000 in
theorem pg_ok_200 : am_chk 200 = true := by decide +kernel
set_option maxRecDepth 100000 in
theorem pg_ok_201 : am_chk 201 = true := by decide +kernel
set_option maxRecDepth 100000 in
theorem pg_ok_202 : am_chk 202 = true := by decide +kernel
set_option maxRecDepth 100000 in
theorem pg_ok_203 : am_chk 203 = true := by decide +kernel
set_option maxRecDepth 100000 in
theorem pg_ok_204 : am_chk 204 = true := by decide +kernel
set_option maxRecDepth 100000 in
theorem pg_ok_205 : am_chk 205 = true := by decide +kernel
set_option maxRecDepth 100000 in
theorem pg_ok_206 : am_chk 206 = true := by decide +kernel
set_option maxRecDepth 100000 in
theorem pg_ok_207 : am_chk 207 = true := by decide +kernel
set_option maxRecDepth 100000 in
theorem pg_ok_208 : am_chk 208 = true := by decide +kernel
set_option maxRecDepth 100000 in
theorem pg_ok_209 : am_chk 209 = true := by decide +kernel
set_option maxRecDepth 100000 in
theorem pg_ok_210 : am_chk 210 = true := by decide +kernel
set_option maxRecDepth 100000 in
theorem pg_ok_211 : am_chk 211 = true := by decide +kernel
set_option maxRecDepth 100000 in
theorem pg_ok_212 : am_chk 212 = true := by decide +kernel
set_option maxRecDepth 100000 in
theorem pg_ok_213 : am_chk 213 = true := by decide +kernel
set_option maxRecDepth 100000 in
theorem pg_ok_214 : am_chk 214 = true := by decide +kernel
set_option maxRecDepth 100000 in
theorem pg_ok_215 : am_chk 215 = true := by decide +kernel
set_option maxRecDepth 100000 in
theorem pg_ok_216 : am_chk 216 = true := by decide +kernel
set_option maxRecDepth 100000 in
theorem pg_ok_217 : am_chk 217 = true := by decide +kernel
set_option maxRecDepth 100000 in
theorem pg_ok_218 : am_chk 218 = true := by decide +kernel
set_option maxRecDepth 100000 in
theorem pg_ok_219 : am_chk 219 = true := by decide +kernel
set_option maxRecDepth 100000 in
theorem pg_ok_220 : am_chk 220 = true := by decide +kernel
set_option maxRecDepth 100000 in
theorem pg_ok_221 : am_chk 221 = true := by decide +kernel
set_option maxRecDepth 100000 in
theorem pg_ok_222 : am_chk 222 = true := by decide +kernel
set_option maxRecDepth 100000 in
theorem pg_ok_223 : am_chk 223 = true := by decide +kernel
set_option maxRecDepth 100000 in
theorem pg_ok_224 : am_chk 224 = true := by decide +kernel
set_option maxRecDepth 100000 in
theorem pg_ok_225 : am_chk 225 = true := by decide +kernel
set_option maxRecDepth 100000 in
theorem pg_ok_226 : am_chk 226 = true := by decide +kernel
set_option maxRecDepth 100000 in
theorem pg_ok_227 : am_chk 227 = true := by decide +kernel
set_option maxRecDepth 100000 in
theorem pg_ok_228 : am_chk 228 = true := by decide +kernel
set_option maxRecDepth 100000 in
theorem pg_ok_229 : am_chk 229 = true := by decide +kernel
set_option maxRecDepth 100000 in
theorem pg_ok_230 : am_chk 230 = true := by decide +kernel
set_option maxRecDepth 100000 in
theorem pg_ok_231 : am_chk 231 = true := by decide +kernel
set_option maxRecDepth 100000 in
theorem pg_ok_232 : am_chk 232 = true := by decide +kernel
set_option maxRecDepth 100000 in
theorem pg_ok_233 : am_chk 233 = true := by decide +kernel
set_option maxRecDepth 100000 in
theorem pg_ok_234 : am_chk 234 = true := by decide +kernel
set_option maxRecDepth 100000 in
theorem pg_ok_235 : am_chk 235 = true := by decide +kernel
set_option maxRecDepth 100000 in
theorem pg_ok_236 : am_chk 236 = true := by decide +kernel
set_option maxRecDepth 100000 in
theorem pg_ok_237 : am_chk 237 = true := by decide +kernel
set_option maxRecDepth 100000 in
theorem pg_ok_238 : am_chk 238 = true := by decide +kernel
set_option maxRecDepth 100000 in
theorem pg_ok_239 : am_chk 239 = true := by decide +kernel
set_option maxRecDepth 100000 in
theorem pg_ok_240 : am_chk 240 = true := by decide +kernel
set_option maxRecDepth 100000 in
theorem pg_ok_241 : am_chk 241 = true := by decide +kernel
set_option maxRecDepth 100000 in
theorem pg_ok_242 : am_chk 242 = true := by decide +kernel
set_option maxRecDepth 100000 in
theorem pg_ok_243 : am_chk 243 = true := by decide +kernel
set_option maxRecDepth 100000 in
theorem pg_ok_244 : am_chk 244 = true := by decide +kernel
set_option maxRecDepth 100000 in
theorem pg_ok_245 : am_chk 245 = true := by decide +kernel
set_option maxRecDepth 100000 in
theorem pg_ok_246 : am_chk 246 = true := by decide +kernel
set_option maxRecDepth 100000 in
theorem pg_ok_247 : am_chk 247 = true := by decide +kernel
set_option maxRecDepth 100000 in
theorem pg_ok_248 : am_chk 248 = true := by decide +kernel
set_option maxRecDepth 100000 in
theorem pg_ok_249 : am_chk 249 = true := by decide +kernel
set_option maxRecDepth 100000 in
theorem pg_ok_250 : am_chk 250 = true := by decide +kernel
set_option maxRecDepth 100000 in
theorem pg_ok_251 : am_chk 251 = true := by decide +kernel
set_option maxRecDepth 100000 in
theorem pg_ok_252 : am_chk 252 = true := by decide +kernel
set_option maxRecDepth 100000 in
theorem pg_ok_253 : am_chk 253 = true := by decide +kernel
set_option maxRecDepth 100000 in
theorem pg_ok_254 : am_chk 254 = true := by decide +kernel
set_option maxRecDepth 100000 in
theorem pg_ok_255 : am_chk 255 = true := by decide +kernel
set_option maxRecDepth 100000 in
theorem pg_ok_256 : am_chk 256 = true := by decide +kernel
set_option maxRecDepth 100000 in
theorem pg_ok_257 : am_chk 257 = true := by decide +kernel
set_option maxRecDepth 100000 in
theorem pg_ok_258 : am_chk 258 = true := by decide +kernel
set_option maxRecDepth 100000 in
theorem pg_ok_259 : am_chk 259 = true := by decide +kernel
set_option maxRecDepth 100000 in
theorem pg_ok_260 : am_chk 260 = true := by decide +kernel
set_option maxRecDepth 100000 in
theorem pg_ok_261 : am_chk 261 = true := by decide +kernel
set_option maxRecDepth 100000 in
theorem pg_ok_262 : am_chk 262 = true := by decide +kernel
set_option maxRecDepth 100000 in
theorem pg_ok_263 : am_chk 263 = true := by decide +kernel
set_option maxRecDepth 100000 in
theorem pg_ok_264 : am_chk 264 = true := by decide +kernel
set_option maxRecDepth 100000 in
theorem pg_ok_265 : am_chk 265 = true := by decide +kernel
set_option maxRecDepth 100000 in
theorem pg_ok_266 : am_chk 266 = true := by decide +kernel
set_option maxRecDepth 100000 in
theorem pg_ok_267 : am_chk 267 = true := by decide +kernel
set_option maxRecDepth 100000 in
theorem pg_ok_268 : am_chk 268 = true := by decide +kernel
set_option maxRecDepth 100000 in
theorem pg_ok_269 : am_chk 269 = true := by decide +kernel
set_option maxRecDepth 100000 in
theorem pg_ok_270 : am_chk 270 = true := by decide +kernel
set_option maxRecDepth 100000 in
theorem pg_ok_271 : am_chk 271 = true := by decide +kernel
set_option maxRecDepth 100000 in
theorem pg_ok_272 : am_chk 272 = true := by decide +kernel
set_option maxRecDepth 100000 in
theorem pg_ok_273 : am_chk 273 = true := by decide +kernel
end
section
/-! ===== the law's own method is what stands in its bytes (in pieces: the whole at once is too much for the kernel) ===== -/
set_option maxRecDepth 100000 in
theorem pg_okl_0 : (List.range 100).all (fun i => am_ck1 274 (0 + i)) = true := by decide +kernel
set_option maxRecDepth 100000 in
theorem pg_okl_100 : (List.range 100).all (fun i => am_ck1 274 (100 + i)) = true := by decide +kernel
set_option maxRecDepth 100000 in
theorem pg_okl_200 : (List.range 100).all (fun i => am_ck1 274 (200 + i)) = true := by decide +kernel
set_option maxRecDepth 100000 in
theorem pg_okl_300 : (List.range 100).all (fun i => am_ck1 274 (300 + i)) = true := by decide +kernel
set_option maxRecDepth 100000 in
theorem pg_okl_400 : (List.range 100).all (fun i => am_ck1 274 (400 + i)) = true := by decide +kernel
set_option maxRecDepth 100000 in
theorem pg_okl_500 : (List.range 100).all (fun i => am_ck1 274 (500 + i)) = true := by decide +kernel
set_option maxRecDepth 100000 in
theorem pg_okl_600 : (List.range 100).all (fun i => am_ck1 274 (600 + i)) = true := by decide +kernel
set_option maxRecDepth 100000 in
theorem pg_okl_700 : (List.range 100).all (fun i => am_ck1 274 (700 + i)) = true := by decide +kernel
set_option maxRecDepth 100000 in
theorem pg_okl_800 : (List.range 100).all (fun i => am_ck1 274 (800 + i)) = true := by decide +kernel
set_option maxRecDepth 100000 in
theorem pg_okl_900 : (List.range 100).all (fun i => am_ck1 274 (900 + i)) = true := by decide +kernel
set_option maxRecDepth 100000 in
theorem pg_okl_1000 : (List.range 100).all (fun i => am_ck1 274 (1000 + i)) = true := by decide +kernel
set_option maxRecDepth 100000 in
theorem pg_okl_1100 : (List.range 100).all (fun i => am_ck1 274 (1100 + i)) = true := by decide +kernel
theorem pg_okl_n : 16 * (pg_m 274).length = 1200 := by decide +kernel
theorem pg_ok_274 : am_chk 274 = true := by
  unfold am_chk
  rw [pg_okl_n, List.all_eq_true]
  intro i hi
  have hi := List.mem_range.mp hi
  by_cases h100 : i < 100
  · have h := List.all_eq_true.mp pg_okl_0 (i - 0) (List.mem_range.mpr (by omega))
    rw [show 0 + (i - 0) = i by omega] at h
    exact h
  by_cases h200 : i < 200
  · have h := List.all_eq_true.mp pg_okl_100 (i - 100) (List.mem_range.mpr (by omega))
    rw [show 100 + (i - 100) = i by omega] at h
    exact h
  by_cases h300 : i < 300
  · have h := List.all_eq_true.mp pg_okl_200 (i - 200) (List.mem_range.mpr (by omega))
    rw [show 200 + (i - 200) = i by omega] at h
    exact h
  by_cases h400 : i < 400
  · have h := List.all_eq_true.mp pg_okl_300 (i - 300) (List.mem_range.mpr (by omega))
    rw [show 300 + (i - 300) = i by omega] at h
    exact h
  by_cases h500 : i < 500
  · have h := List.all_eq_true.mp pg_okl_400 (i - 400) (List.mem_range.mpr (by omega))
    rw [show 400 + (i - 400) = i by omega] at h
    exact h
  by_cases h600 : i < 600
  · have h := List.all_eq_true.mp pg_okl_500 (i - 500) (List.mem_range.mpr (by omega))
    rw [show 500 + (i - 500) = i by omega] at h
    exact h
  by_cases h700 : i < 700
  · have h := List.all_eq_true.mp pg_okl_600 (i - 600) (List.mem_range.mpr (by omega))
    rw [show 600 + (i - 600) = i by omega] at h
    exact h
  by_cases h800 : i < 800
  · have h := List.all_eq_true.mp pg_okl_700 (i - 700) (List.mem_range.mpr (by omega))
    rw [show 700 + (i - 700) = i by omega] at h
    exact h
  by_cases h900 : i < 900
  · have h := List.all_eq_true.mp pg_okl_800 (i - 800) (List.mem_range.mpr (by omega))
    rw [show 800 + (i - 800) = i by omega] at h
    exact h
  by_cases h1000 : i < 1000
  · have h := List.all_eq_true.mp pg_okl_900 (i - 900) (List.mem_range.mpr (by omega))
    rw [show 900 + (i - 900) = i by omega] at h
    exact h
  by_cases h1100 : i < 1100
  · have h := List.all_eq_true.mp pg_okl_1000 (i - 1000) (List.mem_range.mpr (by omega))
    rw [show 1000 + (i - 1000) = i by omega] at h
    exact h
  have h := List.all_eq_true.mp pg_okl_1100 (i - 1100) (List.mem_range.mpr (by omega))
  rw [show 1100 + (i - 1100) = i by omega] at h
  exact h
end
section
/-! ===== the machine's cells that a state of the small machine stands for ===== -/
def am_tr (ad : Nat → Nat) (v : Value) : Value := match v with
  | .ref r => .ref (ad r)
  | v => v
theorem am_tr_cat (ad : Nat → Nat) (v : Value) : (am_tr ad v).category = v.category := by cases v <;> rfl
theorem am_cat_tr (ad : Nat → Nat) : ∀ st : List Value, ((st.map (am_tr ad)).map fun v => v.category).sum = am_cat st
  | [] => rfl
  | v :: st => by
    show (am_tr ad v).category + ((st.map (am_tr ad)).map fun v => v.category).sum = v.category + am_cat st
    rw [am_tr_cat, am_cat_tr ad st]
def am_tys (dA : Nat → ClassId) : List (ClassId × FieldType) := [(dA 100, .int), (dA 101, .byte), (dA 102, .long), (dA 104, .object RX1), (dA 105, .object RX2), (dA 110, .object RX7), (dA 112, .object RX9), (dA 180, .array .int), (dA 182, .array .long)]
def am_fv (ad : Nat → Nat) (S : am_S) (a t j : Nat) : Value := match t with
  | 1 => .long (am_j S a j)
  | 2 => va_rf ((am_r S a j).map ad)
  | _ => .int (am_i S a j)
def am_fs (ad : Nat → Nat) (S : am_S) (a : Nat) : List Nat → Nat → List Value
  | [], _ => []
  | t :: ts, j => am_fv ad S a t j :: am_fs ad S a ts (j + 1)
def am_ac (ad : Nat → Nat) (S : am_S) (a : Nat) : vp_A := (am_l S a, if am_c S a < 102 then .inl (am_i S a) else if am_c S a = 102 then .inr (.inl (am_j S a)) else .inr (.inr (.inr (.inr (fun j => (am_r S a j).map ad)))))
def am_ce (dA : Nat → ClassId) (ad : Nat → Nat) (S : am_S) (a : Nat) : va_E := if am_c S a < 100 then .inr (am_c S a, am_fs ad S a (am_ft (am_c S a)) 0) else .inl (dA (am_c S a), am_ac ad S a)
def am_wd (dA : Nat → ClassId) (ad : Nat → Nat) (S : am_S) : va_W := (List.range (am_n S)).map fun k => (ad k, am_ce dA ad S k)
theorem am_wd_at {dA : Nat → ClassId} {ad : Nat → Nat} {S : am_S} {k : Nat} (h : k < am_n S) : (am_wd dA ad S)[k]? = some (ad k, am_ce dA ad S k) := by
  unfold am_wd
  rw [List.getElem?_map, List.getElem?_range h]
  rfl
theorem am_ce_o {dA : Nat → ClassId} {ad : Nat → Nat} {S : am_S} {a c : Nat} (h : am_c S a = c) (hc : c < 100) : am_ce dA ad S a = .inr (c, am_fs ad S a (am_ft c) 0) := by
  unfold am_ce
  rw [h, if_pos hc]
theorem am_ce_a {dA : Nat → ClassId} {ad : Nat → Nat} {S : am_S} {a c : Nat} (h : am_c S a = c) (hc : ¬ c < 100) : am_ce dA ad S a = .inl (dA c, am_ac ad S a) := by
  unfold am_ce
  rw [h, if_neg hc]
theorem am_ac_i {ad : Nat → Nat} {S : am_S} {a c : Nat} (h : am_c S a = c) (hc : c < 102) : am_ac ad S a = (am_l S a, .inl (am_i S a)) := by
  unfold am_ac
  rw [h, if_pos hc]
theorem am_ac_j {ad : Nat → Nat} {S : am_S} {a : Nat} (h : am_c S a = 102) : am_ac ad S a = (am_l S a, .inr (.inl (am_j S a))) := by
  unfold am_ac
  rw [h, if_neg (by decide), if_pos rfl]
theorem am_ac_r {ad : Nat → Nat} {S : am_S} {a c : Nat} (h : am_c S a = c) (hc : 102 < c) : am_ac ad S a = (am_l S a, .inr (.inr (.inr (.inr (fun j => (am_r S a j).map ad))))) := by
  unfold am_ac
  rw [h, if_neg (by omega), if_neg (by omega)]
theorem am_fs_at {ad : Nat → Nat} {S : am_S} {a : Nat} : ∀ (ts : List Nat) (j k t : Nat), ts[k]? = some t → (am_fs ad S a ts j)[k]? = some (am_fv ad S a t (j + k))
  | [], _, _, _, h => by simp at h
  | t0 :: ts, j, 0, t, h => by
    simp only [List.getElem?_cons_zero, Option.some.injEq] at h
    subst h
    rfl
  | t0 :: ts, j, k + 1, t, h => by
    simp only [List.getElem?_cons_succ] at h
    have := am_fs_at (ad := ad) (S := S) (a := a) ts (j + 1) k t h
    show (am_fs ad S a ts (j + 1))[k]? = _
    rw [this, show j + 1 + k = j + (k + 1) by omega]
theorem am_fs_len {ad : Nat → Nat} {S : am_S} {a : Nat} : ∀ (ts : List Nat) (j : Nat), (am_fs ad S a ts j).length = ts.length
  | [], _ => rfl
  | _ :: ts, j => congrArg (· + 1) (am_fs_len ts (j + 1))
/-- a cell is written: its own entry alone changes -/
theorem am_wd_set {dA : Nat → ClassId} {ad : Nat → Nat} {S S' : am_S} {a : Nat} {e : va_E} (hn : am_n S' = am_n S) (ho : ∀ k, k ≠ a → am_ce dA ad S' k = am_ce dA ad S k) (ha : am_ce dA ad S' a = e) : (am_wd dA ad S).set a (ad a, e) = am_wd dA ad S' := by
  subst ha
  unfold am_wd
  rw [hn]
  apply List.ext_getElem?
  intro k
  by_cases hk : k < am_n S
  · rw [List.getElem?_map, List.getElem?_range hk]
    by_cases hka : k = a
    · subst hka
      rw [List.getElem?_set_self (by simpa using hk)]
      rfl
    · rw [List.getElem?_set_ne (Ne.symm hka), List.getElem?_map, List.getElem?_range hk]
      show some (ad k, am_ce dA ad S k) = some (ad k, am_ce dA ad S' k)
      rw [ho k hka]
  · rw [List.getElem?_eq_none (by simpa using hk), List.getElem?_eq_none (by simpa using hk)]
theorem am_up_s {α : Type} {f : Nat → α} {k : Nat} {v : α} : am_up f k v k = v := if_pos rfl
theorem am_up_n {α : Type} {f : Nat → α} {k j : Nat} {v : α} (h : j ≠ k) : am_up f k v j = f j := if_neg h
theorem am_fs_eq {ad : Nat → Nat} {S S' : am_S} {a : Nat} (h1 : am_i S' a = am_i S a) (h2 : am_j S' a = am_j S a) (h3 : am_r S' a = am_r S a) : ∀ (ts : List Nat) (j : Nat), am_fs ad S' a ts j = am_fs ad S a ts j
  | [], _ => rfl
  | t :: ts, j => by
    show am_fv ad S' a t j :: am_fs ad S' a ts (j + 1) = am_fv ad S a t j :: am_fs ad S a ts (j + 1)
    rw [am_fs_eq h1 h2 h3 ts (j + 1)]
    unfold am_fv
    rw [h1, h2, h3]
theorem am_ce_eq {dA : Nat → ClassId} {ad : Nat → Nat} {S S' : am_S} {a : Nat} (h0 : am_c S' a = am_c S a) (hl : am_l S' a = am_l S a) (h1 : am_i S' a = am_i S a) (h2 : am_j S' a = am_j S a) (h3 : am_r S' a = am_r S a) : am_ce dA ad S' a = am_ce dA ad S a := by
  unfold am_ce am_ac
  rw [h0, hl, h1, h2, h3, am_fs_eq h1 h2 h3]
/-- a field is written -/
theorem am_fs_set {ad : Nat → Nat} {S S' : am_S} {a j0 : Nat} {v : Value} : ∀ (ts : List Nat) (j k t : Nat), ts[k]? = some t → am_fv ad S' a t (j + k) = v → (∀ i t', i ≠ j + k → am_fv ad S' a t' i = am_fv ad S a t' i) → am_fs ad S' a ts j = (am_fs ad S a ts j).set k v
  | [], _, _, _, h, _, _ => by simp at h
  | t0 :: ts, j, 0, t, h, hv, ho => by
    simp only [List.getElem?_cons_zero, Option.some.injEq] at h
    subst h
    show am_fv ad S' a t0 j :: am_fs ad S' a ts (j + 1) = v :: am_fs ad S a ts (j + 1)
    rw [show am_fv ad S' a t0 j = v from hv]
    congr 1
    have : ∀ (ts : List Nat) (i : Nat), j < i → am_fs ad S' a ts i = am_fs ad S a ts i := by
      intro ts
      induction ts with
      | nil => intro i _; rfl
      | cons t ts ih =>
        intro i hi
        show am_fv ad S' a t i :: am_fs ad S' a ts (i + 1) = am_fv ad S a t i :: am_fs ad S a ts (i + 1)
        rw [ih (i + 1) (by omega), ho i t (by omega)]
    exact this ts (j + 1) (by omega)
  | t0 :: ts, j, k + 1, t, h, hv, ho => by
    simp only [List.getElem?_cons_succ] at h
    show am_fv ad S' a t0 j :: am_fs ad S' a ts (j + 1) = am_fv ad S a t0 j :: (am_fs ad S a ts (j + 1)).set k v
    rw [ho j t0 (by omega), am_fs_set (j0 := j0) (v := v) (S := S) (S' := S') ts (j + 1) k t h (by rw [show j + 1 + k = j + (k + 1) by omega]; exact hv) (fun i t' hi => ho i t' (by omega))]
theorem am_ft_len : ∀ c, c < 13 → (am_ft c).length = am_N c := by decide +kernel
theorem am_cl : ∀ c, c < 13 → vwCl[c]? = some (am_on c, am_T c, am_N c) := by
  intro c hc
  match c, hc with
  | 0, _ => rfl
  | 1, _ => rfl
  | 2, _ => rfl
  | 3, _ => rfl
  | 4, _ => rfl
  | 5, _ => rfl
  | 6, _ => rfl
  | 7, _ => rfl
  | 8, _ => rfl
  | 9, _ => rfl
  | 10, _ => rfl
  | 11, _ => rfl
  | 12, _ => rfl
  | c + 13, h => exact absurd h (by omega)
theorem am_tyok : ∀ c, c < 13 → ∀ k, k < am_N c → parseFieldDescriptor (am_T c k).2.2.1 = some (am_ty c k) := by
  intro c hc
  match c, hc with
  | 0, _ => exact tyX0_ok
  | 1, _ => exact tyX1_ok
  | 2, _ => exact tyX2_ok
  | 3, _ => exact tyX3_ok
  | 4, _ => exact tyX4_ok
  | 5, _ => exact tyX5_ok
  | 6, _ => exact tyX6_ok
  | 7, _ => exact tyX7_ok
  | 8, _ => exact tyX8_ok
  | 9, _ => exact tyX9_ok
  | 10, _ => exact tyX10_ok
  | 11, _ => exact tyX11_ok
  | 12, _ => exact tyX12_ok
  | c + 13, h => exact absurd h (by omega)
theorem am_nmok : ∀ c, c < 13 → ∀ a, a < am_N c → ∀ b, b < am_N c → a ≠ b → (am_T c a).2.1 ≠ (am_T c b).2.1 := by
  intro c hc
  match c, hc with
  | 0, _ => exact nmX0
  | 1, _ => exact nmX1
  | 2, _ => exact nmX2
  | 3, _ => exact nmX3
  | 4, _ => exact nmX4
  | 5, _ => exact nmX5
  | 6, _ => exact nmX6
  | 7, _ => exact nmX7
  | 8, _ => exact nmX8
  | 9, _ => exact nmX9
  | 10, _ => exact nmX10
  | 11, _ => exact nmX11
  | 12, _ => exact nmX12
  | c + 13, h => exact absurd h (by omega)
/-- a field's type is what the numbers say: 0 int, 1 long, 2 a reference, 3 boolean; its class declares it -/
def am_tq (t : Nat) (ty : FieldType) : Bool := match t, ty with
  | 0, .int => true
  | 1, .long => true
  | 2, .object _ => true
  | 2, .array _ => true
  | 3, .boolean => true
  | _, _ => false
theorem am_ftok : ∀ c, c < 13 → ∀ k, k < am_N c → am_tq ((am_ft c).getD k 9) (am_ty c k) = true ∧ (am_T c k).1 = am_on c := by decide +kernel
set_option maxRecDepth 100000 in
theorem am_uw_0 : ∀ w ∈ u_ws RX0 TX0 6, w ∈ lw_tbl := lk_sub [489, 491, 493, 495, 497, 499] rfl
set_option maxRecDepth 100000 in
theorem am_uw_1 : ∀ w ∈ u_ws RX1 TX1 5, w ∈ lw_tbl := lk_sub [291, 293, 295, 297, 299] rfl
set_option maxRecDepth 100000 in
theorem am_uw_2 : ∀ w ∈ u_ws RX2 TX2 3, w ∈ lw_tbl := lk_sub [260, 262, 264] rfl
set_option maxRecDepth 100000 in
theorem am_uw_3 : ∀ w ∈ u_ws RX3 TX3 5, w ∈ lw_tbl := lk_sub [155, 157, 159, 161, 163] rfl
set_option maxRecDepth 100000 in
theorem am_uw_4 : ∀ w ∈ u_ws RX4 TX4 7, w ∈ lw_tbl := lk_sub [459, 461, 463, 465, 467, 469, 471] rfl
set_option maxRecDepth 100000 in
theorem am_uw_5 : ∀ w ∈ u_ws RX5 TX5 2, w ∈ lw_tbl := lk_sub [409, 411] rfl
set_option maxRecDepth 100000 in
theorem am_uw_6 : ∀ w ∈ u_ws RX6 TX6 3, w ∈ lw_tbl := lk_sub [435, 437, 439] rfl
set_option maxRecDepth 100000 in
theorem am_uw_7 : ∀ w ∈ u_ws RX7 TX7 12, w ∈ lw_tbl := lk_sub [218, 220, 222, 224, 226, 228, 230, 232, 234, 236, 238, 240] rfl
set_option maxRecDepth 100000 in
theorem am_uw_8 : ∀ w ∈ u_ws RX8 TX8 1, w ∈ lw_tbl := lk_sub [422] rfl
set_option maxRecDepth 100000 in
theorem am_uw_9 : ∀ w ∈ u_ws RX9 TX9 4, w ∈ lw_tbl := lk_sub [319, 321, 323, 325] rfl
set_option maxRecDepth 100000 in
theorem am_uw_10 : ∀ w ∈ u_ws RX10 TX10 15, w ∈ lw_tbl := lk_sub [369, 371, 373, 375, 377, 379, 381, 383, 385, 387, 389, 391, 393, 395, 397] rfl
set_option maxRecDepth 100000 in
theorem am_uw_11 : ∀ w ∈ u_ws RX11 TX11 19, w ∈ lw_tbl := lk_sub [525, 527, 529, 531, 533, 535, 537, 539, 541, 543, 545, 547, 549, 551, 553, 555, 557, 559, 561] rfl
set_option maxRecDepth 100000 in
theorem am_uw_12 : ∀ w ∈ u_ws RX12 TX12 37, w ∈ lw_tbl := lk_sub [1258, 1260, 1262, 1264, 1266, 1268, 1270, 1272, 1274, 1276, 1278, 1280, 1282, 1284, 1286, 1288, 1290, 1292, 1294, 1296, 1298, 1300, 1302, 1304, 1306, 1308, 1310, 1312, 1314, 1316, 1318, 1320, 1322, 1324, 1326, 1328, 1330] rfl
theorem am_uw : ∀ c, c < 13 → ∀ w ∈ u_ws (am_on c) (am_T c) (am_N c), w ∈ lw_tbl := by
  intro c hc
  match c, hc with
  | 0, _ => exact am_uw_0
  | 1, _ => exact am_uw_1
  | 2, _ => exact am_uw_2
  | 3, _ => exact am_uw_3
  | 4, _ => exact am_uw_4
  | 5, _ => exact am_uw_5
  | 6, _ => exact am_uw_6
  | 7, _ => exact am_uw_7
  | 8, _ => exact am_uw_8
  | 9, _ => exact am_uw_9
  | 10, _ => exact am_uw_10
  | 11, _ => exact am_uw_11
  | 12, _ => exact am_uw_12
  | c + 13, h => exact absurd h (by omega)
end
section

/-! ===== what a step keeps, the run keeps ===== -/
/-- instructions that make cells or write references -/
def am_al (ins : Instr) : Bool := match ins with
  | .new _ => true
  | .newarray _ => true
  | .anewarray _ => true
  | .multianewarray _ _ => true
  | .aastore => true
  | .invokespecial _ => true
  | .putfield k => Nat.beq (k % 4) 2
  | _ => false
section PS
variable {Qr : am_S → Prop}
def am_Ps (Qr : am_S → Prop) (a : am_R) : Prop := ∀ r, a = some r → Qr r.2
theorem am_ps_no : am_Ps Qr none := fun r h => by cases h
theorem am_ps_ret {v : Option Value} {S : am_S} (h : Qr S) : am_Ps Qr (some (v, S)) := fun r e => by cases e; exact h
theorem am_ps_ite {c : Prop} [Decidable c] {a b : am_R} (ha : am_Ps Qr a) (hb : am_Ps Qr b) : am_Ps Qr (if c then a else b) := by
  by_cases hc : c
  · rw [if_pos hc]; exact ha
  · rw [if_neg hc]; exact hb
theorem am_ps_bV {o : am_R} {k : am_S → am_R} (h : ∀ S, o = some (none, S) → am_Ps Qr (k S)) : am_Ps Qr (am_bV o k) := by
  rcases o with _ | ⟨_ | v, S⟩
  · exact am_ps_no
  · exact h S rfl
  · exact am_ps_no
theorem am_ps_bI {o : am_R} {k : Int32 → am_S → am_R} (h : ∀ x S, o = some (some (.int x), S) → am_Ps Qr (k x S)) : am_Ps Qr (am_bI o k) := by
  rcases o with _ | ⟨_ | v, S⟩
  · exact am_ps_no
  · exact am_ps_no
  · cases v <;> first | exact h _ S rfl | exact am_ps_no
theorem am_ps_bJ {o : am_R} {k : Int64 → am_S → am_R} (h : ∀ x S, o = some (some (.long x), S) → am_Ps Qr (k x S)) : am_Ps Qr (am_bJ o k) := by
  rcases o with _ | ⟨_ | v, S⟩
  · exact am_ps_no
  · exact am_ps_no
  · cases v <;> first | exact h _ S rfl | exact am_ps_no
theorem am_ps_bA {o : am_R} {k : Nat → am_S → am_R} (h : ∀ x S, o = some (some (.ref x), S) → am_Ps Qr (k x S)) : am_Ps Qr (am_bA o k) := by
  rcases o with _ | ⟨_ | v, S⟩
  · exact am_ps_no
  · exact am_ps_no
  · cases v <;> first | exact h _ S rfl | exact am_ps_no
theorem am_ps_bq {o : Option Nat} {k : Nat → am_R} (h : ∀ x, am_Ps Qr (k x)) : am_Ps Qr (am_bq o k) := by
  rcases o with _ | v
  · exact am_ps_no
  · exact h v
theorem am_ps_br {c : Jvm.ClassFile.Cond} {x y : Int32} {a b : am_R} (ha : am_Ps Qr a) (hb : am_Ps Qr b) : am_Ps Qr (am_br c x y a b) := by
  cases c
  · exact am_ps_ite ha hb
  · exact am_ps_ite hb ha
  · exact am_ps_ite ha hb
  · exact am_ps_ite hb ha
  · exact am_ps_ite ha hb
  · exact am_ps_ite hb ha
theorem am_ps_sw {x : Int32} {d : am_R} {K : Nat → am_R} (hd : am_Ps Qr d) (hK : ∀ t, am_Ps Qr (K t)) : ∀ (ts : List Int) (lo : Nat), am_Ps Qr (am_sw x d K lo ts)
  | [], _ => hd
  | t :: ts, lo => am_ps_ite (hK _) (am_ps_sw hd hK ts (lo + 1))
theorem am_ps_lk {x : Int32} {d : am_R} {K : Nat → am_R} (hd : am_Ps Qr d) (hK : ∀ t, am_Ps Qr (K t)) : ∀ (ts : List (Int × Int)), am_Ps Qr (am_lk x d K ts)
  | [] => hd
  | t :: ts => am_ps_ite (hK _) (am_ps_lk hd hK ts)
theorem am_pres {f : Nat → List Value → am_S → am_R} {K : Nat → List Value → List Value → am_S → am_R} {S : am_S} {G : am_S → Prop} (hK : ∀ i lo st S', G S' → am_Ps Qr (K i lo st S')) (h0 : Qr S) (hG : G S)
    (hi : ∀ a k v, G (am_pi S a k v)) (hj : ∀ a k v, G (am_pj S a k v)) (hc : ∀ a b x y z, G (am_cp S a b x y z)) {al : Bool} (hr : al = true → ∀ a k v, G (am_pr S a k v)) (hm : al = true → ∀ c n, G (am_mk S c n)) (hw : al = true → ∀ c1 n1 c n, G (am_rows (am_n S) c n n1 0 (am_mk S c1 n1)))
    (hf : ∀ z args v S', f z args S = some (v, S') → G S') (ins : Instr) (hal : am_al ins = true → al = true) (i : Nat) (lo st : List Value) : am_Ps Qr (am_stp f K ins i lo st S) := by
  cases ins
  case getfield k =>
    rcases st with _ | ⟨v, st⟩
    · exact am_ps_no
    · cases v
      case ref a =>
        refine am_ps_ite ?_ am_ps_no
        generalize k % 4 = q
        rcases q with _ | _ | q
        · exact (by first | exact hK _ _ _ _ hG | exact hK _ _ _ _ (hi _ _ _) | exact hK _ _ _ _ (hj _ _ _) | exact hK _ _ _ _ (hc _ _ _ _ _) | exact hK _ _ _ _ (hr (hal rfl) _ _ _) | exact hK _ _ _ _ (hm (hal rfl) _ _) | exact hK _ _ _ _ (hw (hal rfl) _ _ _ _))
        · exact (by first | exact hK _ _ _ _ hG | exact hK _ _ _ _ (hi _ _ _) | exact hK _ _ _ _ (hj _ _ _) | exact hK _ _ _ _ (hc _ _ _ _ _) | exact hK _ _ _ _ (hr (hal rfl) _ _ _) | exact hK _ _ _ _ (hm (hal rfl) _ _) | exact hK _ _ _ _ (hw (hal rfl) _ _ _ _))
        · exact am_ps_bq fun _ => (by first | exact hK _ _ _ _ hG | exact hK _ _ _ _ (hi _ _ _) | exact hK _ _ _ _ (hj _ _ _) | exact hK _ _ _ _ (hc _ _ _ _ _) | exact hK _ _ _ _ (hr (hal rfl) _ _ _) | exact hK _ _ _ _ (hm (hal rfl) _ _) | exact hK _ _ _ _ (hw (hal rfl) _ _ _ _))
      all_goals exact am_ps_no
  case putfield k =>
    rcases st with _ | ⟨v, _ | ⟨w, st⟩⟩
    · exact am_ps_no
    · cases v <;> exact am_ps_no
    · cases v
      case int x =>
        cases w
        case ref a =>
          refine am_ps_ite ?_ am_ps_no
          generalize k % 4 = q
          rcases q with _ | _ | _ | _ | q
          · exact (by first | exact hK _ _ _ _ hG | exact hK _ _ _ _ (hi _ _ _) | exact hK _ _ _ _ (hj _ _ _) | exact hK _ _ _ _ (hc _ _ _ _ _) | exact hK _ _ _ _ (hr (hal rfl) _ _ _) | exact hK _ _ _ _ (hm (hal rfl) _ _) | exact hK _ _ _ _ (hw (hal rfl) _ _ _ _))
          · exact am_ps_no
          · exact am_ps_no
          · exact am_ps_ite (by first | exact hK _ _ _ _ hG | exact hK _ _ _ _ (hi _ _ _) | exact hK _ _ _ _ (hj _ _ _) | exact hK _ _ _ _ (hc _ _ _ _ _) | exact hK _ _ _ _ (hr (hal rfl) _ _ _) | exact hK _ _ _ _ (hm (hal rfl) _ _) | exact hK _ _ _ _ (hw (hal rfl) _ _ _ _)) am_ps_no
          · exact am_ps_no
        all_goals exact am_ps_no
      case long x =>
        cases w
        case ref a =>
          refine am_ps_ite ?_ am_ps_no
          generalize k % 4 = q
          rcases q with _ | _ | q
          · exact am_ps_no
          · exact (by first | exact hK _ _ _ _ hG | exact hK _ _ _ _ (hi _ _ _) | exact hK _ _ _ _ (hj _ _ _) | exact hK _ _ _ _ (hc _ _ _ _ _) | exact hK _ _ _ _ (hr (hal rfl) _ _ _) | exact hK _ _ _ _ (hm (hal rfl) _ _) | exact hK _ _ _ _ (hw (hal rfl) _ _ _ _))
          · exact am_ps_no
        all_goals exact am_ps_no
      case ref x =>
        cases w
        case ref a =>
          refine am_ps_ite ?_ am_ps_no
          have hal : Nat.beq (k % 4) 2 = true → al = true := hal
          revert hal
          generalize k % 4 = q
          intro hal
          rcases q with _ | _ | _ | q
          · exact am_ps_no
          · exact am_ps_no
          · exact am_ps_ite (by first | exact hK _ _ _ _ hG | exact hK _ _ _ _ (hi _ _ _) | exact hK _ _ _ _ (hj _ _ _) | exact hK _ _ _ _ (hc _ _ _ _ _) | exact hK _ _ _ _ (hr (hal rfl) _ _ _) | exact hK _ _ _ _ (hm (hal rfl) _ _) | exact hK _ _ _ _ (hw (hal rfl) _ _ _ _)) am_ps_no
          · exact am_ps_no
        all_goals exact am_ps_no
      all_goals exact am_ps_no
  case newarray t =>
    rcases st with _ | ⟨v, st⟩
    · exact am_ps_no
    · cases v
      case int x =>
        refine am_ps_ite am_ps_no ?_
        cases t <;> first | exact (by first | exact hK _ _ _ _ hG | exact hK _ _ _ _ (hi _ _ _) | exact hK _ _ _ _ (hj _ _ _) | exact hK _ _ _ _ (hc _ _ _ _ _) | exact hK _ _ _ _ (hr (hal rfl) _ _ _) | exact hK _ _ _ _ (hm (hal rfl) _ _) | exact hK _ _ _ _ (hw (hal rfl) _ _ _ _)) | exact am_ps_no
      all_goals exact am_ps_no
  case multianewarray k e =>
    rcases st with _ | ⟨v, _ | ⟨w, st⟩⟩
    · exact am_ps_no
    · cases v <;> exact am_ps_no
    · cases v
      case int y =>
        cases w
        case int x =>
          refine am_ps_ite am_ps_no ?_
          rcases k with _ | _ | k
          · exact (by first | exact hK _ _ _ _ hG | exact hK _ _ _ _ (hi _ _ _) | exact hK _ _ _ _ (hj _ _ _) | exact hK _ _ _ _ (hc _ _ _ _ _) | exact hK _ _ _ _ (hr (hal rfl) _ _ _) | exact hK _ _ _ _ (hm (hal rfl) _ _) | exact hK _ _ _ _ (hw (hal rfl) _ _ _ _))
          · exact (by first | exact hK _ _ _ _ hG | exact hK _ _ _ _ (hi _ _ _) | exact hK _ _ _ _ (hj _ _ _) | exact hK _ _ _ _ (hc _ _ _ _ _) | exact hK _ _ _ _ (hr (hal rfl) _ _ _) | exact hK _ _ _ _ (hm (hal rfl) _ _) | exact hK _ _ _ _ (hw (hal rfl) _ _ _ _))
          · exact am_ps_no
        all_goals exact am_ps_no
      all_goals exact am_ps_no
  case invokestatic y =>
    refine am_ps_ite ?_ am_ps_no
    generalize (pg_sg y).2 = q
    rcases q with _ | _ | _ | q
    · exact am_ps_bV (fun S1 h1 => hK _ _ _ _ (hf _ _ _ _ h1))
    · exact am_ps_bI (fun x S1 h1 => hK _ _ _ _ (hf _ _ _ _ h1))
    · exact am_ps_bJ (fun x S1 h1 => hK _ _ _ _ (hf _ _ _ _ h1))
    · exact am_ps_bA (fun x S1 h1 => hK _ _ _ _ (hf _ _ _ _ h1))
  case invokespecial y => exact am_ps_ite (am_ps_bV (fun S1 h1 => hK _ _ _ _ (hf _ _ _ _ h1))) am_ps_no
  case ireturn => rcases st with _ | ⟨v, _ | ⟨w, st⟩⟩ <;> (try cases v) <;> first | exact am_ps_no | exact am_ps_ret h0
  case freturn => rcases st with _ | ⟨v, _ | ⟨w, st⟩⟩ <;> (try cases v) <;> first | exact am_ps_no | exact am_ps_ite (am_ps_ret h0) am_ps_no
  case lreturn => rcases st with _ | ⟨v, _ | ⟨w, st⟩⟩ <;> (try cases v) <;> first | exact am_ps_no | exact am_ps_ret h0
  case areturn => rcases st with _ | ⟨v, _ | ⟨w, st⟩⟩ <;> (try cases v) <;> first | exact am_ps_no | exact am_ps_ite (am_ps_ret h0) am_ps_no
  case return_ => rcases st with _ | ⟨v, st⟩ <;> first | exact am_ps_no | exact am_ps_ret h0
  case new k => exact am_ps_ite (by first | exact hK _ _ _ _ hG | exact hK _ _ _ _ (hi _ _ _) | exact hK _ _ _ _ (hj _ _ _) | exact hK _ _ _ _ (hc _ _ _ _ _) | exact hK _ _ _ _ (hr (hal rfl) _ _ _) | exact hK _ _ _ _ (hm (hal rfl) _ _) | exact hK _ _ _ _ (hw (hal rfl) _ _ _ _)) am_ps_no
  case iload k =>
    have e : ∀ v, am_nth lo k = v → am_Ps Qr (am_stp f K (.iload k) i lo st S) := by
      intro v hv
      simp only [am_stp, hv]
      cases v <;> first | exact (by first | exact hK _ _ _ _ hG | exact hK _ _ _ _ (hi _ _ _) | exact hK _ _ _ _ (hj _ _ _) | exact hK _ _ _ _ (hc _ _ _ _ _) | exact hK _ _ _ _ (hr (hal rfl) _ _ _) | exact hK _ _ _ _ (hm (hal rfl) _ _) | exact hK _ _ _ _ (hw (hal rfl) _ _ _ _)) | exact am_ps_no
    exact e _ rfl
  case lload k =>
    have e : ∀ v, am_nth lo k = v → am_Ps Qr (am_stp f K (.lload k) i lo st S) := by
      intro v hv
      simp only [am_stp, hv]
      cases v <;> first | exact (by first | exact hK _ _ _ _ hG | exact hK _ _ _ _ (hi _ _ _) | exact hK _ _ _ _ (hj _ _ _) | exact hK _ _ _ _ (hc _ _ _ _ _) | exact hK _ _ _ _ (hr (hal rfl) _ _ _) | exact hK _ _ _ _ (hm (hal rfl) _ _) | exact hK _ _ _ _ (hw (hal rfl) _ _ _ _)) | exact am_ps_no
    exact e _ rfl
  case aload k =>
    have e : ∀ v, am_nth lo k = v → am_Ps Qr (am_stp f K (.aload k) i lo st S) := by
      intro v hv
      simp only [am_stp, hv]
      cases v <;> first | exact (by first | exact hK _ _ _ _ hG | exact hK _ _ _ _ (hi _ _ _) | exact hK _ _ _ _ (hj _ _ _) | exact hK _ _ _ _ (hc _ _ _ _ _) | exact hK _ _ _ _ (hr (hal rfl) _ _ _) | exact hK _ _ _ _ (hm (hal rfl) _ _) | exact hK _ _ _ _ (hw (hal rfl) _ _ _ _)) | exact am_ps_no
    exact e _ rfl
  case iinc k c =>
    have e : ∀ v, am_nth lo k = v → am_Ps Qr (am_stp f K (.iinc k c) i lo st S) := by
      intro v hv
      simp only [am_stp, hv]
      cases v <;> first | exact (by first | exact hK _ _ _ _ hG | exact hK _ _ _ _ (hi _ _ _) | exact hK _ _ _ _ (hj _ _ _) | exact hK _ _ _ _ (hc _ _ _ _ _) | exact hK _ _ _ _ (hr (hal rfl) _ _ _) | exact hK _ _ _ _ (hm (hal rfl) _ _) | exact hK _ _ _ _ (hw (hal rfl) _ _ _ _)) | exact am_ps_no
    exact e _ rfl
  all_goals first
    | exact am_ps_no
    | exact (by first | exact hK _ _ _ _ hG | exact hK _ _ _ _ (hi _ _ _) | exact hK _ _ _ _ (hj _ _ _) | exact hK _ _ _ _ (hc _ _ _ _ _) | exact hK _ _ _ _ (hr (hal rfl) _ _ _) | exact hK _ _ _ _ (hm (hal rfl) _ _) | exact hK _ _ _ _ (hw (hal rfl) _ _ _ _))
    | skip
  all_goals (rcases st with _ | ⟨v1, st⟩ <;> first | exact am_ps_no | skip)
  all_goals (first | exact am_ps_ite (by first | exact hK _ _ _ _ hG | exact hK _ _ _ _ (hi _ _ _) | exact hK _ _ _ _ (hj _ _ _) | exact hK _ _ _ _ (hc _ _ _ _ _) | exact hK _ _ _ _ (hr (hal rfl) _ _ _) | exact hK _ _ _ _ (hm (hal rfl) _ _) | exact hK _ _ _ _ (hw (hal rfl) _ _ _ _)) am_ps_no | (cases v1 <;> first | exact am_ps_no | exact (by first | exact hK _ _ _ _ hG | exact hK _ _ _ _ (hi _ _ _) | exact hK _ _ _ _ (hj _ _ _) | exact hK _ _ _ _ (hc _ _ _ _ _) | exact hK _ _ _ _ (hr (hal rfl) _ _ _) | exact hK _ _ _ _ (hm (hal rfl) _ _) | exact hK _ _ _ _ (hw (hal rfl) _ _ _ _)) | exact am_ps_br (by first | exact hK _ _ _ _ hG | exact hK _ _ _ _ (hi _ _ _) | exact hK _ _ _ _ (hj _ _ _) | exact hK _ _ _ _ (hc _ _ _ _ _) | exact hK _ _ _ _ (hr (hal rfl) _ _ _) | exact hK _ _ _ _ (hm (hal rfl) _ _) | exact hK _ _ _ _ (hw (hal rfl) _ _ _ _)) (by first | exact hK _ _ _ _ hG | exact hK _ _ _ _ (hi _ _ _) | exact hK _ _ _ _ (hj _ _ _) | exact hK _ _ _ _ (hc _ _ _ _ _) | exact hK _ _ _ _ (hr (hal rfl) _ _ _) | exact hK _ _ _ _ (hm (hal rfl) _ _) | exact hK _ _ _ _ (hw (hal rfl) _ _ _ _)) | exact am_ps_sw (by first | exact hK _ _ _ _ hG | exact hK _ _ _ _ (hi _ _ _) | exact hK _ _ _ _ (hj _ _ _) | exact hK _ _ _ _ (hc _ _ _ _ _) | exact hK _ _ _ _ (hr (hal rfl) _ _ _) | exact hK _ _ _ _ (hm (hal rfl) _ _) | exact hK _ _ _ _ (hw (hal rfl) _ _ _ _)) (fun _ => (by first | exact hK _ _ _ _ hG | exact hK _ _ _ _ (hi _ _ _) | exact hK _ _ _ _ (hj _ _ _) | exact hK _ _ _ _ (hc _ _ _ _ _) | exact hK _ _ _ _ (hr (hal rfl) _ _ _) | exact hK _ _ _ _ (hm (hal rfl) _ _) | exact hK _ _ _ _ (hw (hal rfl) _ _ _ _))) _ _ | exact am_ps_lk (by first | exact hK _ _ _ _ hG | exact hK _ _ _ _ (hi _ _ _) | exact hK _ _ _ _ (hj _ _ _) | exact hK _ _ _ _ (hc _ _ _ _ _) | exact hK _ _ _ _ (hr (hal rfl) _ _ _) | exact hK _ _ _ _ (hm (hal rfl) _ _) | exact hK _ _ _ _ (hw (hal rfl) _ _ _ _)) (fun _ => (by first | exact hK _ _ _ _ hG | exact hK _ _ _ _ (hi _ _ _) | exact hK _ _ _ _ (hj _ _ _) | exact hK _ _ _ _ (hc _ _ _ _ _) | exact hK _ _ _ _ (hr (hal rfl) _ _ _) | exact hK _ _ _ _ (hm (hal rfl) _ _) | exact hK _ _ _ _ (hw (hal rfl) _ _ _ _))) _ | exact am_ps_ite (by first | exact hK _ _ _ _ hG | exact hK _ _ _ _ (hi _ _ _) | exact hK _ _ _ _ (hj _ _ _) | exact hK _ _ _ _ (hc _ _ _ _ _) | exact hK _ _ _ _ (hr (hal rfl) _ _ _) | exact hK _ _ _ _ (hm (hal rfl) _ _) | exact hK _ _ _ _ (hw (hal rfl) _ _ _ _)) am_ps_no | exact am_ps_ite am_ps_no (by first | exact hK _ _ _ _ hG | exact hK _ _ _ _ (hi _ _ _) | exact hK _ _ _ _ (hj _ _ _) | exact hK _ _ _ _ (hc _ _ _ _ _) | exact hK _ _ _ _ (hr (hal rfl) _ _ _) | exact hK _ _ _ _ (hm (hal rfl) _ _) | exact hK _ _ _ _ (hw (hal rfl) _ _ _ _)) | skip) | skip)
  all_goals (rcases st with _ | ⟨v2, st⟩ <;> first | exact am_ps_no | skip)
  all_goals (first | exact am_ps_ite (by first | exact hK _ _ _ _ hG | exact hK _ _ _ _ (hi _ _ _) | exact hK _ _ _ _ (hj _ _ _) | exact hK _ _ _ _ (hc _ _ _ _ _) | exact hK _ _ _ _ (hr (hal rfl) _ _ _) | exact hK _ _ _ _ (hm (hal rfl) _ _) | exact hK _ _ _ _ (hw (hal rfl) _ _ _ _)) am_ps_no | (cases v2 <;> first | exact am_ps_no | exact (by first | exact hK _ _ _ _ hG | exact hK _ _ _ _ (hi _ _ _) | exact hK _ _ _ _ (hj _ _ _) | exact hK _ _ _ _ (hc _ _ _ _ _) | exact hK _ _ _ _ (hr (hal rfl) _ _ _) | exact hK _ _ _ _ (hm (hal rfl) _ _) | exact hK _ _ _ _ (hw (hal rfl) _ _ _ _)) | exact am_ps_br (by first | exact hK _ _ _ _ hG | exact hK _ _ _ _ (hi _ _ _) | exact hK _ _ _ _ (hj _ _ _) | exact hK _ _ _ _ (hc _ _ _ _ _) | exact hK _ _ _ _ (hr (hal rfl) _ _ _) | exact hK _ _ _ _ (hm (hal rfl) _ _) | exact hK _ _ _ _ (hw (hal rfl) _ _ _ _)) (by first | exact hK _ _ _ _ hG | exact hK _ _ _ _ (hi _ _ _) | exact hK _ _ _ _ (hj _ _ _) | exact hK _ _ _ _ (hc _ _ _ _ _) | exact hK _ _ _ _ (hr (hal rfl) _ _ _) | exact hK _ _ _ _ (hm (hal rfl) _ _) | exact hK _ _ _ _ (hw (hal rfl) _ _ _ _)) | exact am_ps_ite (by first | exact hK _ _ _ _ hG | exact hK _ _ _ _ (hi _ _ _) | exact hK _ _ _ _ (hj _ _ _) | exact hK _ _ _ _ (hc _ _ _ _ _) | exact hK _ _ _ _ (hr (hal rfl) _ _ _) | exact hK _ _ _ _ (hm (hal rfl) _ _) | exact hK _ _ _ _ (hw (hal rfl) _ _ _ _)) am_ps_no | exact am_ps_ite am_ps_no (by first | exact hK _ _ _ _ hG | exact hK _ _ _ _ (hi _ _ _) | exact hK _ _ _ _ (hj _ _ _) | exact hK _ _ _ _ (hc _ _ _ _ _) | exact hK _ _ _ _ (hr (hal rfl) _ _ _) | exact hK _ _ _ _ (hm (hal rfl) _ _) | exact hK _ _ _ _ (hw (hal rfl) _ _ _ _)) | exact am_ps_ite (am_ps_ite am_ps_no (by first | exact hK _ _ _ _ hG | exact hK _ _ _ _ (hi _ _ _) | exact hK _ _ _ _ (hj _ _ _) | exact hK _ _ _ _ (hc _ _ _ _ _) | exact hK _ _ _ _ (hr (hal rfl) _ _ _) | exact hK _ _ _ _ (hm (hal rfl) _ _) | exact hK _ _ _ _ (hw (hal rfl) _ _ _ _))) am_ps_no | exact am_ps_ite (am_ps_ite am_ps_no (am_ps_bq fun _ => (by first | exact hK _ _ _ _ hG | exact hK _ _ _ _ (hi _ _ _) | exact hK _ _ _ _ (hj _ _ _) | exact hK _ _ _ _ (hc _ _ _ _ _) | exact hK _ _ _ _ (hr (hal rfl) _ _ _) | exact hK _ _ _ _ (hm (hal rfl) _ _) | exact hK _ _ _ _ (hw (hal rfl) _ _ _ _)))) am_ps_no | skip) | skip)
  all_goals (rcases st with _ | ⟨v3, st⟩ <;> first | exact am_ps_no | skip)
  all_goals (cases v3 <;> first | exact am_ps_no | exact am_ps_ite (am_ps_ite am_ps_no (by first | exact hK _ _ _ _ hG | exact hK _ _ _ _ (hi _ _ _) | exact hK _ _ _ _ (hj _ _ _) | exact hK _ _ _ _ (hc _ _ _ _ _) | exact hK _ _ _ _ (hr (hal rfl) _ _ _) | exact hK _ _ _ _ (hm (hal rfl) _ _) | exact hK _ _ _ _ (hw (hal rfl) _ _ _ _))) am_ps_no | skip)
  all_goals (rcases st with _ | ⟨v4, st⟩ <;> first | exact am_ps_no | skip)
  all_goals (cases v4 <;> first | exact am_ps_no | skip)
  all_goals (rcases st with _ | ⟨v5, st⟩ <;> first | exact am_ps_no | skip)
  all_goals (cases v5 <;> first | exact am_ps_no | exact am_ps_ite (am_ps_ite am_ps_no (by first | exact hK _ _ _ _ hG | exact hK _ _ _ _ (hi _ _ _) | exact hK _ _ _ _ (hj _ _ _) | exact hK _ _ _ _ (hc _ _ _ _ _) | exact hK _ _ _ _ (hr (hal rfl) _ _ _) | exact hK _ _ _ _ (hm (hal rfl) _ _) | exact hK _ _ _ _ (hw (hal rfl) _ _ _ _))) am_ps_no)

end PS
end
section
/-! ===== what is there besides the world: rows of numbers, texts, the script; words across the nest ===== -/
def am_st (j : Nat) : List Int32 := match j with
  | 0 => [10, 10, 30, 40, 10, 30, 10, 80]
  | 1 => [11, 20, 11, 11, 60, 51, 11, 81]
  | 2 => [12, 12, 12, 12, 12, 50, 12, 82]
  | _ => [13, 13, 31, 31, 13, 31, 70, 83]
def am_xl (L j : Nat) : Nat := match j with
  | 4 => L
  | _ => 8
def am_xf (xs : Nat → Int32) (j k : Nat) : Int32 := match j with
  | 4 => xs k
  | j => (am_st j).getD k 0
def am_sl : List Nat := [21, 16, 15, 20, 11, 11, 36, 2, 2, 3, 3, 29]
def am_bt : List (List Int32) := [[102, 105, 114, 115, 116, 32, 99, 111, 112, 121, 32, 115, 104, 97, 114, 101, 100, 32, 97, 108, 108], [98, 111, 100, 121, 32, 109, 101, 109, 111, 114, 121, 32, 114, 111, 111, 116], [101, 97, 99, 104, 32, 114, 111, 111, 116, 32, 115, 104, 97, 114, 101], [109, 97, 107, 101, 114, 32, 99, 111, 112, 121, 32, 98, 111, 116, 104, 32, 110, 111, 110, 101], [102, 114, 101, 101, 32, 110, 101, 101, 100, 101, 100], [114, 101, 115, 116, 115, 32, 98, 101, 97, 114, 115], [111, 119, 101, 115, 32, 111, 119, 110, 115, 32, 98, 108, 97, 109, 101, 32, 118, 111, 116, 101, 32, 119, 101, 100, 32, 108, 101, 97, 118, 101, 32, 115, 108, 101, 101, 112], [105, 102], [111, 114], [97, 110, 100], [110, 111, 116], [100, 97, 121, 32, 109, 97, 100, 101, 32, 103, 97, 112, 32, 107, 105, 110, 100, 32, 97, 109, 111, 117, 110, 116, 32, 104, 101, 108, 100]]
def am_E (A : Nat → Prop) (ad adV : Nat → Nat) (L : Nat) (xs : Nat → Int32) (U : State) (H : Heap) : Prop :=
  (∀ j, j < 4 → va_Z "OneIsTwo$Actor" (am_gx j) "[I" (.ref (ad (2000000 + j))) A U H) ∧
  (∀ j, j < 5 → va_T .int (ad (2000000 + j)) (am_xl L j) (fun k => .int (am_xf xs j k)) A U H) ∧
  vk_S 12 am_sl am_bt (fun i => ad (4000000 + i)) adV A U H ∧
  (∀ q ∈ lk_s, vk_R (am_on q.1) q.2.1 (am_sx q.2.2) (ad (4000000 + q.2.2)) U) ∧
  va_Z "java/lang/String" "COMPACT_STRINGS" "Z" (.int 1) A U H ∧
  va_Zq "jdk/internal/util/Preconditions" "SIOOBE_FORMATTER" "Ljava/util/function/BiFunction;" A U H
def am_NW (U : State) : Prop := (∀ q ∈ lk_nm, va_Nw (lk_nmw q) U) ∧ va_Nw lk_fn U ∧ (∀ k, k = 1 ∨ k = 2 ∨ k = 7 ∨ k = 9 → va_AO (am_on k) U) ∧ (Cond.arrayOver (.array .int)).before #[] U = true ∧ (Cond.arrayOver (.array .long)).before #[] U = true
/-- the numbers' side: which kinds there are; what is there besides lies where it should -/
def am_vk (c : Nat) : Prop := c < 13 ∨ c = 100 ∨ c = 101 ∨ c = 102 ∨ c = 104 ∨ c = 105 ∨ c = 110 ∨ c = 112 ∨ c = 180 ∨ c = 182
def am_Iv (L : Nat) (xs : Nat → Int32) (S : am_S) : Prop :=
  (∀ a, am_c S a < 900 → a < am_n S ∧ am_vk (am_c S a)) ∧
  (∀ a, am_c S a = 997 → ∃ i, i < 12 ∧ a = 4000000 + i) ∧
  (∀ a, am_c S a = 998 → ∃ j, j < 5 ∧ a = 2000000 + j) ∧
  (∀ j, j < 5 → ∀ k, k < am_xl L j → am_i S (2000000 + j) k = am_xf xs j k) ∧
  (∀ j, j < 5 → am_i S (3000000 + j) 0 = nI (am_xl L j)) ∧
  (∀ i, i < 12 → ∀ k, k < am_sl.getD i 0 → am_i S (4000000 + i) k = (am_bt.getD i []).getD k 0) ∧
  (∀ i, i < 12 → am_i S (5000000 + i) 0 = nI (am_sl.getD i 0)) ∧
  (∀ a j r, am_r S a j = some r → r < am_n S) ∧
  am_n S < 1200
/-- two tables of addresses agree on the first n cells, and on what is there besides -/
def am_ag (n : Nat) (ad ad' : Nat → Nat) : Prop := ∀ k, k < n ∨ 2000000 ≤ k → ad' k = ad k
theorem am_ag.rf {n : Nat} {ad : Nat → Nat} : am_ag n ad ad := fun _ _ => rfl
theorem am_ag.tr {n m : Nat} {a b c : Nat → Nat} (h1 : am_ag n a b) (h2 : am_ag m b c) (h : n ≤ m) : am_ag n a c := fun k hk => (h2 k (hk.elim (fun q => Or.inl (by omega)) Or.inr)).trans (h1 k hk)
theorem am_E.ag {A : Nat → Prop} {ad ad' adV : Nat → Nat} {L n : Nat} {xs : Nat → Int32} {U : State} {H : Heap} (h : am_E A ad adV L xs U H) (g : am_ag n ad ad') : am_E A ad' adV L xs U H := by
  obtain ⟨h1, h2, h3, h4, h5, h6⟩ := h
  refine ⟨fun j hj => ?_, fun j hj => ?_, ?_, fun q hq => ?_, h5, h6⟩
  · rw [g _ (Or.inr (by omega))]; exact h1 j hj
  · rw [g _ (Or.inr (by omega))]; exact h2 j hj
  · rw [show (fun i => ad' (4000000 + i)) = fun i => ad (4000000 + i) from funext fun i => g _ (Or.inr (by omega))]; exact h3
  · rw [g _ (Or.inr (by omega))]; exact h4 q hq
theorem am_E.kept {A : Nat → Prop} {ad adV : Nat → Nat} {L : Nat} {xs : Nat → Int32} {U : State} {H H1 : Heap} (h : am_E A ad adV L xs U H) (hq : ∀ a : Nat, a < H.size → ¬ A a → H1[a]? = H[a]?) : am_E A ad adV L xs U H1 := by
  obtain ⟨h1, h2, h3, h4, h5, h6⟩ := h
  exact ⟨fun j hj => (h1 j hj).kept hq, fun j hj => (h2 j hj).kept hq, h3.kept hq, h4, h5.kept hq, h6.kept hq⟩
theorem am_E.warm {A : Nat → Prop} {ad adV : Nat → Nat} {L : Nat} {xs : Nat → Int32} {s U : State} {H : Heap} (hW : s.WarmedH U.vm) (h : am_E A ad adV L xs s H) : am_E A ad adV L xs U H := by
  obtain ⟨h1, h2, h3, h4, h5, h6⟩ := h
  exact ⟨fun j hj => va_Z.moved hW.alike (h1 j hj), fun j hj => va_T.moved hW.alike (h2 j hj), vk_S.moved hW.alike h3, fun q hq => (h4 q hq).warm hW, va_Z.moved hW.alike h5, va_Zq.moved hW.alike h6⟩
theorem am_E.same {A : Nat → Prop} {ad adV : Nat → Nat} {L : Nat} {xs : Nat → Int32} {u U : State} {H : Heap} (hv : U.vm = u.vm) (h : am_E A ad adV L xs u H) : am_E A ad adV L xs U H := by
  obtain ⟨h1, h2, h3, h4, h5, h6⟩ := h
  have hA : u.vm.Alike U.vm := by rw [hv]; exact Vm.Alike.refl _
  exact ⟨fun j hj => va_Z.moved hA (h1 j hj), fun j hj => va_T.moved hA (h2 j hj), vk_S.moved hA h3, fun q hq => (h4 q hq).same hv, va_Z.moved hA h5, va_Zq.moved hA h6⟩
theorem am_overA {args : Array Value} {s : State} {t : FieldType} (h : (Cond.arrayOver (.array t)).before args s = true) :
    ∃ comp c k, s.vm.findClass (FieldType.array t).toString = some comp ∧ (s.vm.classes.findIdx? fun x => match x.kind with | .array component _ => component == comp | _ => false) = some c ∧ s.vm.classes[c]? = some k ∧ k.kind = .array comp (.array t) ∧
      s.vm.findClass ("[" ++ (FieldType.array t).toString) = some c := by
  have h : (Cond.arrayOver (.array t)).holds args s none s [] = true := h
  simp only [Cond.holds, Cond.value, beq_iff_eq] at h
  cases hc : s.vm.findClass (FieldType.array t).toString with
  | none => simp [hc] at h
  | some comp =>
    simp only [hc, Option.bind_some, Option.bind_eq_some_iff, Option.map_eq_some_iff] at h
    obtain ⟨c, hi, k, hk, hb⟩ := h
    obtain ⟨hlt, hp, -⟩ := Array.findIdx?_eq_some_iff_getElem.mp hi
    have hkk : s.vm.classes[c] = k := (Array.getElem?_eq_some_iff.mp hk).2
    rw [hkk] at hp
    cases hkind : k.kind with
    | array component ty =>
      rw [hkind] at hb hp
      simp at hb hp
      exact ⟨comp, c, k, rfl, hi, hk, by rw [hkind, hp, hb.1], hb.2⟩
    | _ => rw [hkind] at hb; simp at hb
theorem am_over_moved {t : FieldType} {u U : State} (hvm : u.vm.Alike U.vm) (h : (Cond.arrayOver (.array t)).before #[] u = true) : (Cond.arrayOver (.array t)).before #[] U = true := by
  obtain ⟨comp, c, k, h1, h2, h3, h4, h5⟩ := am_overA h
  obtain ⟨k', hk', he⟩ := hvm.2.2 _ _ h3
  have hi : (U.vm.classes.findIdx? fun (x : Class) => match x.kind with | .array component _ => component == comp | _ => false) = some c := by
    refine (va_idx_bare U.vm comp).symm.trans ?_
    have e3 : U.vm.bare = u.vm.bare := by first | exact hvm.bare_eq | exact hvm.bare_eq.symm
    rw [e3]
    exact (va_idx_bare u.vm comp).trans h2
  have hkind : k'.kind = .array comp (.array t) := by rw [he]; exact h4
  have f1 : U.vm.findClass (FieldType.array t).toString = some comp := by rw [hvm.findClass]; exact h1
  have f2 : U.vm.findClass ("[" ++ (FieldType.array t).toString) = some c := by rw [hvm.findClass]; exact h5
  unfold Cond.before Cond.holds
  simp only [Cond.value]
  rw [f1, Option.bind_some]
  refine (congrArg (fun o : Option Nat => (o.bind (fun c => (U.vm.classes[c]?).map fun (k : Class) => match k.kind with | .array _ ty => decide (ty = FieldType.array t) && decide (U.vm.findClass ("[" ++ (FieldType.array t).toString) = some c) | _ => false) == some true)) hi).trans ?_
  simp [hk', hkind, f2]
theorem am_NW.warm {s U : State} (hW : s.WarmedH U.vm) (h : am_NW s) : am_NW U := by
  obtain ⟨h1, h2, h3, h4, h5⟩ := h
  exact ⟨fun q hq => va_Nw.warmM hW (h1 q hq), va_Nw.warmF hW h2, fun k hk => va_AO.moved hW.alike (h3 k hk), am_over_moved hW.alike h4, am_over_moved hW.alike h5⟩
theorem am_NW.same {u U : State} (hv : u.vm = U.vm) (h : am_NW u) : am_NW U := by
  obtain ⟨h1, h2, h3, h4, h5⟩ := h
  exact ⟨fun q hq => va_Nw.same rfl hv (h1 q hq), va_Nw.same rfl hv h2, fun k hk => va_AO.moved (by rw [hv]; exact Vm.Alike.refl _) (h3 k hk), am_over_moved (by rw [hv]; exact Vm.Alike.refl _) h4, am_over_moved (by rw [hv]; exact Vm.Alike.refl _) h5⟩
/-! ===== the words that a method hands on ===== -/
def lw_gw : List Cond := lw_tbl.filter goodWord
theorem lw_gw_in {w : Cond} (h : w ∈ lw_tbl) (hg : goodWord w = true) : w ∈ lw_gw := List.mem_filter.mpr ⟨h, hg⟩
def pg_ws (y : Nat) : List Cond := .code (pg_nm y) (pg_by y) (pg_mx y) (pg_rt y) :: lw_gw
theorem pg_ws_in {y : Nat} (h : y ∈ pg_ys.flatten) : GoodIn lw_gw (pg_ws y) := by
  intro w hw
  rcases List.mem_cons.mp hw with rfl | hw
  · exact ⟨lw_gw_in (pg_w_ok y h _ List.mem_cons_self) rfl, Or.inl rfl⟩
  · exact ⟨hw, good_of_word (List.mem_filter.mp hw).2⟩
/-- what holds where a method begins, and ends -/
def am_B (A : Nat → Prop) (D : va_G) (dA : Nat → ClassId) (ad adV : Nat → Nat) (L : Nat) (xs : Nat → Int32) (S : am_S) (U : State) : Prop :=
  va_K D vwCl (am_tys dA) U ∧ am_NW U ∧ am_E A ad adV L xs U U.heap ∧ va_P D vwCl (am_wd dA ad S) U.heap ∧ va_D A (am_wd dA ad S) ∧ am_Iv L xs S ∧ ∀ q, U.heap.size ≤ q → A q
def am_B1 (A : Nat → Prop) (D : va_G) (dA : Nat → ClassId) (ad : Nat → Nat) (L : Nat) (xs : Nat → Int32) (S : am_S) (t : State) : Prop :=
  va_P D vwCl (am_wd dA ad S) t.heap ∧ va_D A (am_wd dA ad S) ∧ am_Iv L xs S
def am_Q (A : Nat → Prop) (D : va_G) (dA : Nat → ClassId) (ad : Nat → Nat) (L : Nat) (xs : Nat → Int32) (n : Nat) (v : Option Value) (S' : am_S) : Array Value → State → Outcome → State → Prop := fun _ st oc t =>
  (∃ ad' : Nat → Nat, oc = .returned (v.map (am_tr ad')) ∧ am_ag n ad ad' ∧ am_B1 A D dA ad' L xs S' t ∧ ∀ x, v = some (.ref x) → 2000000 ≤ x) ∧ va_F A st t
/-- a method does what the small machine says -/
def am_M (l : Launch) (d y : Nat) (as : List Value) (S : am_S) (v : Option Value) (S' : am_S) : Prop :=
  ∀ (A : Nat → Prop) (D : va_G) (dA : Nat → ClassId) (ad adV : Nat → Nat) (L : Nat) (xs : Nat → Int32), L < 2 ^ 31 →
    Met l (pg_nm y) (pg_ws y) { frames := d + 8, cells := am_n S' - am_n S, slots := am_w S' - am_w S, locals := 64 * (d + 8) } (va_Pc (as.map (am_tr ad)) (am_B A D dA ad adV L xs S)) (am_Q A D dA ad L xs (am_n S) v S') (am_n S' - am_n S) (am_w S' - am_w S) A
theorem am_B.blind {A : Nat → Prop} {D : va_G} {dA : Nat → ClassId} {ad adV : Nat → Nat} {L : Nat} {xs : Nat → Int32} {S : am_S} {av : List Value} : FrameBlind (va_Pc av (am_B A D dA ad adV L xs S)) := by
  intro a U g mk q
  obtain ⟨q0, k1, k2, k3, k4, k5, k6, k7⟩ := q
  exact ⟨q0, va_K.moved (u := U) (U := U.calling g mk a) (Vm.Alike.refl U.vm) k1, am_NW.same (U := U.calling g mk a) rfl k2, am_E.same (U := U.calling g mk a) rfl k3, k4, k5, k6, k7⟩
section CK
variable {p : Program} {l : Launch} {e : Env} {R : Room} {s : State} {m : MethodId} {args : Array Value} {below : List Frame} {meth : Method} {c : Code} {H : Heap} {locs : List Loc} {cells slots : Nat} {Q : State → Prop}
variable {pc : Nat} {ls : Array Slot} {rest st0 : List Value} {a : Array Value} {A : Nat → Prop} {H0 : Heap} {mc ms : Nat}
theorem am_callk {D : va_G} {dA : Nat → ClassId} {ad : Nat → Nat} {L n : Nat} {xs : Nat → Int32} {v : Option Value} {S' : am_S} (hr : va_Run p l e R s m args below meth c H locs cells slots mc ms (F0 m pc ls st0) rest (am_Q A D dA ad L xs n v S' a) A) (hS : va_S A H0 H locs)
    (kk : ∀ (ad' : Nat → Nat) (t : State) (H1 : Heap) (locs1 : List Loc), t.heap = H1 → s.vm.Alike t.vm → am_ag n ad ad' → (va_P D vwCl (am_wd dA ad' S') t.heap ∧ va_D A (am_wd dA ad' S') ∧ am_Iv L xs S' ∧ ∀ x, v = some (.ref x) → 2000000 ≤ x) → va_S A H0 H1 locs1 → W p l e R s m args below meth c H1 locs1 (cells + mc) (slots + ms) Q (F0 m (pc + 3) ls ((v.map (am_tr ad')).toList ++ rest))) : W p l e R s m args below meth c H locs cells slots Q (F0 m pc ls st0) := by
  intro T hT X
  obtain ⟨v1, st₀, t, T', L1, h0, X', hL, e1, e2, ⟨⟨ad', hv, hg, hb, hr9⟩, hz, hk⟩, st⟩ := hr T hT X
  cases hv
  rw [h0] at hz hk
  obtain ⟨t2, a1, b1⟩ := kk ad' t T'.heap (locs ++ L1) e1.symm (by rw [← e2]; exact X'.warmed.alike) hg ⟨hb.1, hb.2.1, hb.2.2, hr9⟩
    ⟨Nat.le_trans hS.1 (by rw [e1]; exact hz), fun q h1 h2 => by rw [e1, hk q (Nat.lt_of_lt_of_le h1 hS.1) h2]; exact hS.2.1 q h1 h2, fun q hq => by
      rcases List.mem_append.mp hq with h | h
      · exact hS.2.2 q h
      · exact hL q h⟩ T' rfl X'
  exact ⟨t2, st t2 a1, b1⟩
end CK
/-! ===== locals ===== -/
def am_has (ad : Nat → Nat) (ls : Array Slot) (n : Nat) (lo : List Value) : Prop := ls.size = n ∧ lv_wf ls ∧ (∀ (k : Nat) (v : Value), am_nth lo k = v → v ≠ .null → ls[k]? = some (.val (am_tr ad v))) ∧ lo.length = n
/-- as the kit writes them -/
def am_prs (ad : Nat → Nat) (lo : List Value) : List (Nat × Value) := (List.range lo.length).filterMap fun k => if am_nth lo k = .null then none else some (k, am_tr ad (am_nth lo k))
theorem am_nth_ge : ∀ (lo : List Value) (k : Nat), lo.length ≤ k → am_nth lo k = .null
  | [], _, _ => rfl
  | _ :: _, 0, h => absurd h (by simp)
  | _ :: lo, k + 1, h => am_nth_ge lo k (by simpa using h)
theorem am_prs_in {ad : Nat → Nat} {lo : List Value} {q : Nat × Value} (h : q ∈ am_prs ad lo) : am_nth lo q.1 ≠ .null ∧ q.2 = am_tr ad (am_nth lo q.1) := by
  obtain ⟨k, -, hk⟩ := List.mem_filterMap.mp h
  by_cases hn : am_nth lo k = .null
  · rw [if_pos hn] at hk; cases hk
  · rw [if_neg hn] at hk; cases hk; exact ⟨hn, rfl⟩
theorem am_prs_of {ad : Nat → Nat} {lo : List Value} {k : Nat} (h : am_nth lo k ≠ .null) : (k, am_tr ad (am_nth lo k)) ∈ am_prs ad lo := by
  refine List.mem_filterMap.mpr ⟨k, List.mem_range.mpr ?_, by rw [if_neg h]⟩
  rcases Nat.lt_or_ge k lo.length with q | q
  · exact q
  · exact absurd (am_nth_ge lo k q) h
theorem am_has.lv {ad : Nat → Nat} {ls : Array Slot} {n : Nat} {lo : List Value} (h : am_has ad ls n lo) : lv_has ls n (am_prs ad lo) :=
  ⟨h.1, h.2.1, fun q hq => by
    obtain ⟨h1, h2⟩ := am_prs_in hq
    rw [h2]
    exact h.2.2.1 q.1 _ rfl h1⟩
theorem am_has.at {ad : Nat → Nat} {ls : Array Slot} {n : Nat} {lo : List Value} {k : Nat} {v : Value} (h : am_has ad ls n lo) (e : am_nth lo k = v) (hv : v ≠ .null) : ls[k]? = some (.val (am_tr ad v)) := h.2.2.1 k v e hv
theorem am_has.ag {ad ad' : Nat → Nat} {ls : Array Slot} {n N : Nat} {lo : List Value} (h : am_has ad ls n lo) (g : am_ag N ad ad') (hk : am_okl N lo = true) : am_has ad' ls n lo := by
  refine ⟨h.1, h.2.1, fun k v e hv => ?_, h.2.2.2⟩
  have h1 := h.2.2.1 k v e hv
  have key : ∀ (lo : List Value), am_okl N lo = true → ∀ (k r : Nat), am_nth lo k = .ref r → r < N ∨ 2000000 ≤ r := by
    intro lo
    induction lo with
    | nil => intro _ k r h; cases h
    | cons a lo ih =>
      intro hk k r h
      have hl : am_okl N lo = true := by
        cases a <;> simp only [am_okl, Bool.and_eq_true] at hk <;> first | exact hk | exact hk.2
      cases k with
      | zero =>
        have h : a = .ref r := h
        subst h
        simp only [am_okl, Bool.and_eq_true, Bool.or_eq_true] at hk
        exact hk.1.elim (fun q => Or.inl (by simpa [Nat.blt_eq] using q)) (fun q => Or.inr (Nat.le_of_ble_eq_true q))
      | succ k => exact ih hl k r h
  cases v with
  | ref r =>
    rw [h1]
    show some (Slot.val (.ref (ad r))) = some (Slot.val (.ref (ad' r)))
    rw [g r (key lo hk k r e)]
  | _ => exact h1
theorem am_okl_tr {ad ad' : Nat → Nat} {N : Nat} (g : am_ag N ad ad') : ∀ (st : List Value), am_okl N st = true → st.map (am_tr ad') = st.map (am_tr ad)
  | [], _ => rfl
  | v :: st, hk => by
    have hl : am_okl N st = true := by
      cases v <;> simp only [am_okl, Bool.and_eq_true] at hk <;> first | exact hk | exact hk.2
    show am_tr ad' v :: st.map (am_tr ad') = am_tr ad v :: st.map (am_tr ad)
    rw [am_okl_tr g st hl]
    congr 1
    cases v with
    | ref r =>
      simp only [am_okl, Bool.and_eq_true, Bool.or_eq_true] at hk
      show Value.ref (ad' r) = Value.ref (ad r)
      rw [g r (hk.1.elim (fun q => Or.inl (by simpa [Nat.blt_eq] using q)) (fun q => Or.inr (Nat.le_of_ble_eq_true q)))]
    | _ => rfl
theorem am_k1_nth : ∀ (lo : List Value) (a k : Nat) (v : Value), am_nth (am_k1 lo a) k = v → v ≠ .null → am_nth lo k = v
  | [], _, _, _, h, _ => h
  | _ :: lo, 0, 0, v, h, hv => absurd h.symm hv
  | _ :: lo, 0, k + 1, v, h, _ => h
  | _ :: lo, a + 1, 0, v, h, _ => h
  | _ :: lo, a + 1, k + 1, v, h, hv => am_k1_nth lo a k v h hv
theorem am_k1_len : ∀ (lo : List Value) (a : Nat), (am_k1 lo a).length = lo.length
  | [], _ => rfl
  | _ :: _, 0 => rfl
  | _ :: lo, a + 1 => congrArg (· + 1) (am_k1_len lo a)
theorem am_s1_len : ∀ (lo : List Value) (i : Nat) (v : Value), (am_s1 lo i v).length = lo.length
  | [], _, _ => rfl
  | _ :: _, 0, _ => rfl
  | _ :: lo, 1, v => congrArg (· + 1) (am_s1_len lo 0 v)
  | _ :: lo, i + 2, v => congrArg (· + 1) (am_s1_len lo (i + 1) v)
theorem am_s2_len : ∀ (lo : List Value) (i : Nat) (v : Value), (am_s2 lo i v).length = lo.length
  | [], _, _ => rfl
  | [_], _, _ => rfl
  | _ :: _ :: _, 0, _ => rfl
  | _ :: b :: lo, 1, v => congrArg (· + 1) (am_s2_len (b :: lo) 0 v)
  | _ :: b :: lo, i + 2, v => congrArg (· + 1) (am_s2_len (b :: lo) (i + 1) v)
theorem am_has.k1 {ad : Nat → Nat} {ls : Array Slot} {n : Nat} {lo : List Value} (h : am_has ad ls n lo) (a : Nat) : am_has ad ls n (am_k1 lo a) :=
  ⟨h.1, h.2.1, fun k v e hv => h.2.2.1 k v (am_k1_nth lo a k v e hv) hv, (am_k1_len lo a).trans h.2.2.2⟩
theorem am_has.kl {ad : Nat → Nat} {ls : Array Slot} {n : Nat} : ∀ (ks : List Nat) {lo : List Value}, am_has ad ls n lo → am_has ad ls n (am_kl ks lo)
  | [], _, h => h
  | k :: ks, _, h => am_has.kl ks (h.k1 k)
theorem am_has.kil {ad : Nat → Nat} {ls : Array Slot} {n : Nat} {lo : List Value} (h : am_has ad ls n lo) (m i : Nat) : am_has ad ls n (am_kil m i lo) := by
  unfold am_kil
  cases pg_ct m i with
  | none => exact h
  | some ks => exact h.kl ks
theorem am_s1_nth : ∀ (lo : List Value) (i : Nat) (v0 : Value) (k : Nat) (v : Value), am_nth (am_s1 lo i v0) k = v → v ≠ .null → (k = i ∧ v = v0) ∨ (k ≠ i ∧ am_nth lo k = v ∧ ¬ (k + 1 = i ∧ v.category = 2))
  | [], _, _, _, _, h, hv => absurd h.symm hv
  | _ :: lo, 0, v0, 0, v, h, _ => Or.inl ⟨rfl, h.symm⟩
  | _ :: lo, 0, v0, k + 1, v, h, _ => Or.inr ⟨by omega, h, by omega⟩
  | a :: lo, 1, v0, 0, v, h, hv => by
    have h : am_un a = v := h
    cases a <;> first | exact absurd h.symm hv | (subst h; exact Or.inr ⟨by omega, rfl, fun q => by cases q.2⟩)
  | a :: lo, 1, v0, k + 1, v, h, hv => by
    rcases am_s1_nth lo 0 v0 k v h hv with ⟨h1, h2⟩ | ⟨h1, h2, h3⟩
    · exact Or.inl ⟨by omega, h2⟩
    · exact Or.inr ⟨by omega, h2, fun q => h3 ⟨by omega, q.2⟩⟩
  | a :: lo, i + 2, v0, 0, v, h, _ => Or.inr ⟨by omega, h, by omega⟩
  | a :: lo, i + 2, v0, k + 1, v, h, hv => by
    rcases am_s1_nth lo (i + 1) v0 k v h hv with ⟨h1, h2⟩ | ⟨h1, h2, h3⟩
    · exact Or.inl ⟨by omega, h2⟩
    · exact Or.inr ⟨by omega, h2, fun q => h3 ⟨by omega, q.2⟩⟩
theorem am_s2_nth : ∀ (lo : List Value) (i : Nat) (v0 : Value) (k : Nat) (v : Value), am_nth (am_s2 lo i v0) k = v → v ≠ .null → i + 1 < lo.length → (k = i ∧ v = v0) ∨ (k ≠ i ∧ k ≠ i + 1 ∧ am_nth lo k = v ∧ ¬ (k + 1 = i ∧ v.category = 2))
  | [], _, _, _, _, _, _, hl => absurd hl (by simp)
  | [a], i, _, _, _, _, _, hl => absurd hl (by simp)
  | _ :: _ :: lo, 0, v0, 0, v, h, _, _ => Or.inl ⟨rfl, h.symm⟩
  | _ :: _ :: lo, 0, v0, 1, v, h, hv, _ => absurd h.symm hv
  | _ :: _ :: lo, 0, v0, k + 2, v, h, _, _ => Or.inr ⟨by omega, by omega, h, by omega⟩
  | a :: b :: lo, 1, v0, 0, v, h, hv, _ => by
    have h : am_un a = v := h
    cases a <;> first | exact absurd h.symm hv | (subst h; exact Or.inr ⟨by omega, by omega, rfl, fun q => by cases q.2⟩)
  | a :: b :: lo, 1, v0, k + 1, v, h, hv, hl => by
    rcases am_s2_nth (b :: lo) 0 v0 k v h hv (by simpa using hl) with ⟨h1, h2⟩ | ⟨h1, h4, h2, h3⟩
    · exact Or.inl ⟨by omega, h2⟩
    · exact Or.inr ⟨by omega, by omega, h2, fun q => h3 ⟨by omega, q.2⟩⟩
  | a :: b :: lo, i + 2, v0, 0, v, h, _, _ => Or.inr ⟨by omega, by omega, h, by omega⟩
  | a :: b :: lo, i + 2, v0, k + 1, v, h, hv, hl => by
    rcases am_s2_nth (b :: lo) (i + 1) v0 k v h hv (by simp only [List.length_cons] at hl ⊢; omega) with ⟨h1, h2⟩ | ⟨h1, h4, h2, h3⟩
    · exact Or.inl ⟨by omega, h2⟩
    · exact Or.inr ⟨by omega, by omega, h2, fun q => h3 ⟨by omega, q.2⟩⟩
/-- behind a store of one place -/
theorem am_has.s1 {ad : Nat → Nat} {ls' : Array Slot} {n i : Nat} {lo : List Value} {v0 : Value} (hlen : lo.length = n) (h' : lv_has ls' n ((i, am_tr ad v0) :: (am_prs ad lo).filter (fun q => !(q.1 == i) && !(q.1 + 1 == i && q.2.category == 2)))) : am_has ad ls' n (am_s1 lo i v0) := by
  refine ⟨h'.1, h'.2.1, fun k v e hv => ?_, (am_s1_len _ _ _).trans hlen⟩
  rcases am_s1_nth lo i v0 k v e hv with ⟨h1, h2⟩ | ⟨h1, h2, h3⟩
  · rw [h1, h2]; exact h'.2.2 _ List.mem_cons_self
  · have hm := am_prs_of (ad := ad) (lo := lo) (k := k) (by rw [h2]; exact hv)
    rw [h2] at hm
    refine h'.2.2 (k, am_tr ad v) (List.mem_cons_of_mem _ (List.mem_filter.mpr ⟨hm, ?_⟩))
    rw [am_tr_cat]
    have e1 : (k == i) = false := by simpa using h1
    show (!(k == i) && !(k + 1 == i && v.category == 2)) = true
    rw [e1]
    by_cases hx : k + 1 = i ∧ v.category = 2
    · exact absurd hx h3
    · simp only [Bool.not_false, Bool.true_and, Bool.not_eq_true', Bool.and_eq_false_iff, beq_eq_false_iff_ne]
      by_cases hy : k + 1 = i
      · exact Or.inr fun z => hx ⟨hy, z⟩
      · exact Or.inl hy
theorem am_has.s2 {ad : Nat → Nat} {ls' : Array Slot} {n i : Nat} {lo : List Value} {v0 : Value} (hlen : lo.length = n) (hl : i + 1 < lo.length) (h' : lv_has ls' n ((i, am_tr ad v0) :: (am_prs ad lo).filter (fun q => !(q.1 == i) && (!(q.1 == i + 1) && !(q.1 + 1 == i && q.2.category == 2))))) : am_has ad ls' n (am_s2 lo i v0) := by
  refine ⟨h'.1, h'.2.1, fun k v e hv => ?_, (am_s2_len _ _ _).trans hlen⟩
  rcases am_s2_nth lo i v0 k v e hv hl with ⟨h1, h2⟩ | ⟨h1, h4, h2, h3⟩
  · rw [h1, h2]; exact h'.2.2 _ List.mem_cons_self
  · have hm := am_prs_of (ad := ad) (lo := lo) (k := k) (by rw [h2]; exact hv)
    rw [h2] at hm
    refine h'.2.2 (k, am_tr ad v) (List.mem_cons_of_mem _ (List.mem_filter.mpr ⟨hm, ?_⟩))
    rw [am_tr_cat]
    have e1 : (k == i) = false := by simpa using h1
    have e2 : (k == i + 1) = false := by simpa using h4
    show (!(k == i) && (!(k == i + 1) && !(k + 1 == i && v.category == 2))) = true
    rw [e1, e2]
    by_cases hx : k + 1 = i ∧ v.category = 2
    · exact absurd hx h3
    · simp only [Bool.not_false, Bool.true_and, Bool.not_eq_true', Bool.and_eq_false_iff, beq_eq_false_iff_ne]
      by_cases hy : k + 1 = i
      · exact Or.inr fun z => hx ⟨hy, z⟩
      · exact Or.inl hy
end
section
/-! ===== writes, as the world sees them ===== -/
theorem am_noh {P : Prop} {r : Option Value × am_S} (h : (none : am_R) = some r) : P := by cases h
theorem am_c_pi (S : am_S) (a k : Nat) (v : Int32) : am_c (am_pi S a k v) = am_c S := rfl
theorem am_ce_pi {dA : Nat → ClassId} {ad : Nat → Nat} {S : am_S} {a k q : Nat} {v : Int32} (h : q ≠ a) : am_ce dA ad (am_pi S a k v) q = am_ce dA ad S q :=
  am_ce_eq rfl rfl (am_up_n h) rfl rfl
theorem am_ce_pj {dA : Nat → ClassId} {ad : Nat → Nat} {S : am_S} {a k q : Nat} {v : Int64} (h : q ≠ a) : am_ce dA ad (am_pj S a k v) q = am_ce dA ad S q :=
  am_ce_eq rfl rfl rfl (am_up_n h) rfl
theorem am_ce_pr {dA : Nat → ClassId} {ad : Nat → Nat} {S : am_S} {a k q v : Nat} (h : q ≠ a) : am_ce dA ad (am_pr S a k v) q = am_ce dA ad S q :=
  am_ce_eq rfl rfl rfl rfl (am_up_n h)
theorem am_i_pi (S : am_S) (a k : Nat) (v : Int32) : am_i (am_pi S a k v) a = am_up (am_i S a) k v := am_up_s
theorem am_j_pj (S : am_S) (a k : Nat) (v : Int64) : am_j (am_pj S a k v) a = am_up (am_j S a) k v := am_up_s
theorem am_r_pr (S : am_S) (a k v : Nat) : am_r (am_pr S a k v) a = am_up (am_r S a) k (some v) := am_up_s
theorem am_wd_pi_o {dA : Nat → ClassId} {ad : Nat → Nat} {S : am_S} {a c j t : Nat} {x : Int32} (hc : am_c S a = c) (h13 : c < 100) (ht : (am_ft c)[j]? = some t) (ht0 : t = 0 ∨ t = 3) :
    (am_wd dA ad S).set a (ad a, .inr (c, (am_fs ad S a (am_ft c) 0).set j (.int x))) = am_wd dA ad (am_pi S a j x) := by
  refine am_wd_set rfl (fun k hk => am_ce_pi hk) ?_
  rw [am_ce_o (S := am_pi S a j x) (c := c) hc h13]
  congr 2
  refine am_fs_set (j0 := 0) (am_ft c) 0 j t ht ?_ (fun i t' hi => ?_)
  · rcases ht0 with rfl | rfl <;> (show Value.int (am_i (am_pi S a j x) a (0 + j)) = .int x; rw [am_i_pi, Nat.zero_add, am_up_s])
  · unfold am_fv
    rw [am_i_pi, am_up_n (by omega)]
    rfl
theorem am_wd_pj_o {dA : Nat → ClassId} {ad : Nat → Nat} {S : am_S} {a c j : Nat} {x : Int64} (hc : am_c S a = c) (h13 : c < 100) (ht : (am_ft c)[j]? = some 1) :
    (am_wd dA ad S).set a (ad a, .inr (c, (am_fs ad S a (am_ft c) 0).set j (.long x))) = am_wd dA ad (am_pj S a j x) := by
  refine am_wd_set rfl (fun k hk => am_ce_pj hk) ?_
  rw [am_ce_o (S := am_pj S a j x) (c := c) hc h13]
  congr 2
  refine am_fs_set (j0 := 0) (am_ft c) 0 j 1 ht ?_ (fun i t' hi => ?_)
  · show Value.long (am_j (am_pj S a j x) a (0 + j)) = .long x
    rw [am_j_pj, Nat.zero_add, am_up_s]
  · unfold am_fv
    rw [am_j_pj, am_up_n (by omega)]
    rfl
theorem am_wd_pr_o {dA : Nat → ClassId} {ad : Nat → Nat} {S : am_S} {a c j x : Nat} (hc : am_c S a = c) (h13 : c < 100) (ht : (am_ft c)[j]? = some 2) :
    (am_wd dA ad S).set a (ad a, .inr (c, (am_fs ad S a (am_ft c) 0).set j (.ref (ad x)))) = am_wd dA ad (am_pr S a j x) := by
  refine am_wd_set rfl (fun k hk => am_ce_pr hk) ?_
  rw [am_ce_o (S := am_pr S a j x) (c := c) hc h13]
  congr 2
  refine am_fs_set (j0 := 0) (am_ft c) 0 j 2 ht ?_ (fun i t' hi => ?_)
  · show va_rf ((am_r (am_pr S a j x) a (0 + j)).map ad) = .ref (ad x)
    rw [am_r_pr, Nat.zero_add, am_up_s]
    rfl
  · unfold am_fv
    rw [am_r_pr, am_up_n (by omega)]
    rfl
theorem am_wd_pi_a {dA : Nat → ClassId} {ad : Nat → Nat} {S : am_S} {a c k : Nat} {x : Int32} (hc : am_c S a = c) (h1 : ¬ c < 100) (h2 : c < 102) :
    (am_wd dA ad S).set a (ad a, .inl (dA c, am_l S a, .inl (upd (am_i S a) k x))) = am_wd dA ad (am_pi S a k x) := by
  refine am_wd_set rfl (fun k hk => am_ce_pi hk) ?_
  rw [am_ce_a (S := am_pi S a k x) (c := c) hc h1, am_ac_i (S := am_pi S a k x) (c := c) hc h2, am_i_pi]
  rfl
theorem am_wd_pj_a {dA : Nat → ClassId} {ad : Nat → Nat} {S : am_S} {a k : Nat} {x : Int64} (hc : am_c S a = 102) :
    (am_wd dA ad S).set a (ad a, .inl (dA 102, am_l S a, .inr (.inl (vp_updL (am_j S a) k x)))) = am_wd dA ad (am_pj S a k x) := by
  refine am_wd_set rfl (fun k hk => am_ce_pj hk) ?_
  rw [am_ce_a (S := am_pj S a k x) (c := 102) hc (by decide), am_ac_j (S := am_pj S a k x) hc, am_j_pj]
  rfl
theorem am_wd_pr_a {dA : Nat → ClassId} {ad : Nat → Nat} {S : am_S} {a c k x : Nat} (hc : am_c S a = c) (h1 : 102 < c) :
    (am_wd dA ad S).set a (ad a, .inl (dA c, am_l S a, .inr (.inr (.inr (.inr (va_up (fun j => (am_r S a j).map ad) k (some (ad x)))))))) = am_wd dA ad (am_pr S a k x) := by
  refine am_wd_set rfl (fun k hk => am_ce_pr hk) ?_
  rw [am_ce_a (S := am_pr S a k x) (c := c) hc (by omega), am_ac_r (S := am_pr S a k x) (c := c) hc h1, am_r_pr]
  show (Sum.inl (dA c, am_l S a, _) : va_E) = Sum.inl (dA c, am_l S a, _)
  congr 7
  funext j
  unfold am_up va_up
  by_cases h : j = k
  · rw [if_pos h, if_pos h]; rfl
  · rw [if_neg h, if_neg h]
theorem am_wd_cp {dA : Nat → ClassId} {ad : Nat → Nat} {S : am_S} {a b sp dp n : Nat} (hc : am_c S b = 100) :
    (am_wd dA ad S).set b (ad b, .inl (dA 100, am_l S b, .inl (va_cpy (am_i S a) (am_i S b) sp dp n))) = am_wd dA ad (am_cp S a b sp dp n) := by
  refine am_wd_set rfl (fun k hk => am_ce_eq rfl rfl (am_up_n hk) rfl rfl) ?_
  rw [am_ce_a (S := am_cp S a b sp dp n) (c := 100) hc (by decide), am_ac_i (S := am_cp S a b sp dp n) (c := 100) hc (by decide)]
  show (Sum.inl (dA 100, am_l S b, Sum.inl (am_up (am_i S) b _ b)) : va_E) = _
  rw [am_up_s]
/-! ===== what holds of the numbers goes on holding ===== -/
theorem am_Iv.wi {L : Nat} {xs : Nat → Int32} {S : am_S} {a : Nat} {g : Nat → Int32} (h : am_Iv L xs S) (ha : am_c S a < 900) : am_Iv L xs (am_wi S a g) := by
  obtain ⟨h1, h2, h3, h4, h5, h6, h7, h8, h9⟩ := h
  have hlt : a < 1200 := by have := (h1 a ha).1; omega
  refine ⟨h1, h2, h3, fun j hj k hk => ?_, fun j hj => ?_, fun i hi k hk => ?_, fun i hi => ?_, h8, h9⟩
  · show am_up (am_i S) a g _ _ = _
    rw [am_up_n (by omega)]; exact h4 j hj k hk
  · show am_up (am_i S) a g _ _ = _
    rw [am_up_n (by omega)]; exact h5 j hj
  · show am_up (am_i S) a g _ _ = _
    rw [am_up_n (by omega)]; exact h6 i hi k hk
  · show am_up (am_i S) a g _ _ = _
    rw [am_up_n (by omega)]; exact h7 i hi
theorem am_Iv.pi {L : Nat} {xs : Nat → Int32} {S : am_S} {a k : Nat} {v : Int32} (h : am_Iv L xs S) (ha : am_c S a < 900) : am_Iv L xs (am_pi S a k v) := h.wi ha
theorem am_Iv.pj {L : Nat} {xs : Nat → Int32} {S : am_S} {a k : Nat} {v : Int64} (h : am_Iv L xs S) : am_Iv L xs (am_pj S a k v) := h
theorem am_Iv.pr {L : Nat} {xs : Nat → Int32} {S : am_S} {a k v : Nat} (h : am_Iv L xs S) (hv : v < am_n S) : am_Iv L xs (am_pr S a k v) := by
  obtain ⟨h1, h2, h3, h4, h5, h6, h7, h8, h9⟩ := h
  refine ⟨h1, h2, h3, h4, h5, h6, h7, fun b j r hr => ?_, h9⟩
  have hr : am_up (am_r S) a (am_up (am_r S a) k (some v)) b j = some r := hr
  by_cases hb : b = a
  · subst hb
    rw [am_up_s] at hr
    by_cases hj : j = k
    · subst hj
      rw [am_up_s] at hr
      cases hr
      exact hv
    · rw [am_up_n hj] at hr
      exact h8 _ _ _ hr
  · rw [am_up_n hb] at hr
    exact h8 _ _ _ hr
theorem am_Iv.mk {L : Nat} {xs : Nat → Int32} {S : am_S} {c n : Nat} (h : am_Iv L xs S) (hc : am_vk c) (hn : am_n S < 1199) : am_Iv L xs (am_mk S c n) := by
  obtain ⟨h1, h2, h3, h4, h5, h6, h7, h8, h9⟩ := h
  have hc900 : c < 900 := by unfold am_vk at hc; omega
  have hup : ∀ {α : Type} (f : Nat → α) (v : α) (q : Nat), 2000000 ≤ q → am_up f (am_n S) v q = f q := fun f v q hq => am_up_n (by omega)
  refine ⟨fun a ha => ?_, fun a ha => ?_, fun a ha => ?_, fun j hj k hk => ?_, fun j hj => ?_, fun i hi k hk => ?_, fun i hi => ?_, fun a j r hr => ?_, by show am_n S + 1 < 1200; omega⟩
  · by_cases e : a = am_n S
    · subst e
      exact ⟨by show am_n S < am_n S + 1; omega, by show am_vk (am_up (am_c S) _ c _); rw [am_up_s]; exact hc⟩
    · have ha' : am_up (am_c S) (am_n S) c a < 900 := ha
      rw [am_up_n e] at ha'
      refine ⟨Nat.lt_succ_of_lt (h1 a ha').1, ?_⟩
      show am_vk (am_up (am_c S) (am_n S) c a)
      rw [am_up_n e]
      exact (h1 a ha').2
  · have ha' : am_up (am_c S) (am_n S) c a = 997 := ha
    by_cases e : a = am_n S
    · subst e; rw [am_up_s] at ha'; omega
    · rw [am_up_n e] at ha'; exact h2 a ha'
  · have ha' : am_up (am_c S) (am_n S) c a = 998 := ha
    by_cases e : a = am_n S
    · subst e; rw [am_up_s] at ha'; omega
    · rw [am_up_n e] at ha'; exact h3 a ha'
  · show am_up (am_i S) (am_n S) (fun _ => 0) _ _ = _
    rw [hup _ _ _ (by omega)]; exact h4 j hj k hk
  · show am_up (am_i S) (am_n S) (fun _ => 0) _ _ = _
    rw [hup _ _ _ (by omega)]; exact h5 j hj
  · show am_up (am_i S) (am_n S) (fun _ => 0) _ _ = _
    rw [hup _ _ _ (by omega)]; exact h6 i hi k hk
  · show am_up (am_i S) (am_n S) (fun _ => 0) _ _ = _
    rw [hup _ _ _ (by omega)]; exact h7 i hi
  · have hr' : am_up (am_r S) (am_n S) (fun _ => none) a j = some r := hr
    by_cases e : a = am_n S
    · subst e; rw [am_up_s] at hr'; cases hr'
    · rw [am_up_n e] at hr'; exact Nat.lt_succ_of_lt (h8 _ _ _ hr')
/-- a new cell, at an address q -/
theorem am_ag.up {n : Nat} {ad : Nat → Nat} {q : Nat} (hn : n < 2000000) : am_ag n ad (am_up ad n q) := fun k hk => am_up_n (by omega)
theorem am_fs_ag {ad ad' : Nat → Nat} {S : am_S} {a : Nat} (h : ∀ j r, am_r S a j = some r → ad' r = ad r) : ∀ (ts : List Nat) (j : Nat), am_fs ad' S a ts j = am_fs ad S a ts j
  | [], _ => rfl
  | t :: ts, j => by
    show am_fv ad' S a t j :: am_fs ad' S a ts (j + 1) = am_fv ad S a t j :: am_fs ad S a ts (j + 1)
    rw [am_fs_ag h ts (j + 1)]
    congr 1
    unfold am_fv
    split
    · rfl
    · cases hr : am_r S a j with
      | none => rfl
      | some r => show va_rf (some (ad' r)) = va_rf (some (ad r)); rw [h j r hr]
    · rfl
theorem am_ce_ag {dA : Nat → ClassId} {ad ad' : Nat → Nat} {S : am_S} {a : Nat} (h : ∀ j r, am_r S a j = some r → ad' r = ad r) : am_ce dA ad' S a = am_ce dA ad S a := by
  unfold am_ce am_ac
  rw [am_fs_ag h]
  rw [show (fun j => (am_r S a j).map ad') = fun j => (am_r S a j).map ad from funext fun j => by
    cases hr : am_r S a j with
    | none => rfl
    | some r => show some (ad' r) = some (ad r); rw [h j r hr]]
theorem am_wd_ag {dA : Nat → ClassId} {ad ad' : Nat → Nat} {S : am_S} (g : am_ag (am_n S) ad ad') (h : ∀ a j r, am_r S a j = some r → r < am_n S) : am_wd dA ad' S = am_wd dA ad S := by
  unfold am_wd
  apply List.map_congr_left
  intro k hk
  rw [g k (Or.inl (List.mem_range.mp hk)), am_ce_ag fun j r hr => g r (Or.inl (h k j r hr))]
theorem am_wd_mk {dA : Nat → ClassId} {ad ad' : Nat → Nat} {S : am_S} {c n : Nat} (g : am_ag (am_n S) ad ad') (h : ∀ a j r, am_r S a j = some r → r < am_n S) :
    am_wd dA ad' (am_mk S c n) = am_wd dA ad S ++ [(ad' (am_n S), am_ce dA ad' (am_mk S c n) (am_n S))] := by
  have e : am_wd dA ad S = (List.range (am_n S)).map fun k => (ad' k, am_ce dA ad' (am_mk S c n) k) := by
    unfold am_wd
    apply List.map_congr_left
    intro k hk
    have hk := List.mem_range.mp hk
    have hne : k ≠ am_n S := by omega
    rw [g k (Or.inl hk)]
    congr 1
    rw [← am_ce_ag (ad := ad) (ad' := ad') (S := S) fun j r hr => g r (Or.inl (h k j r hr))]
    exact (am_ce_eq (S := S) (S' := am_mk S c n) (am_up_n hne) (am_up_n hne) (am_up_n hne) (am_up_n hne) (am_up_n hne)).symm
  rw [e]
  unfold am_wd
  show (List.range (am_n S + 1)).map _ = _
  rw [List.range_succ, List.map_append]
  rfl
theorem am_fs_new {ad : Nat → Nat} {S : am_S} {a : Nat} (hi : am_i S a = fun _ => 0) (hj : am_j S a = fun _ => 0) (hr : am_r S a = fun _ => none) : ∀ (ts : List Nat) (j k : Nat) (t : Nat), ts[k]? = some t → (am_fs ad S a ts j)[k]? = some (match t with | 1 => .long 0 | 2 => .null | _ => .int 0)
  | [], _, _, _, h => by simp at h
  | t0 :: ts, j, 0, t, h => by
    simp only [List.getElem?_cons_zero, Option.some.injEq] at h
    subst h
    show some (am_fv ad S a t0 j) = _
    rcases t0 with _ | _ | _ | t0
    · show some (Value.int (am_i S a j)) = _
      rw [hi]
      rfl
    · show some (Value.long (am_j S a j)) = _
      rw [hj]
      rfl
    · show some (va_rf ((am_r S a j).map ad)) = _
      rw [hr]
      rfl
    · show some (Value.int (am_i S a j)) = _
      rw [hi]
      rfl
  | t0 :: ts, j, k + 1, t, h => by
    simp only [List.getElem?_cons_succ] at h
    exact am_fs_new hi hj hr ts (j + 1) k t h
theorem am_dflt : ∀ c, c < 13 → ∀ k, k < am_N c → defaultValue (am_ty c k) = (match (am_ft c).getD k 9 with | 1 => .long 0 | 2 => .null | _ => .int 0) := by decide +kernel
theorem am_mk_i (S : am_S) (c n : Nat) : am_i (am_mk S c n) (am_n S) = fun _ => 0 := am_up_s
theorem am_mk_j (S : am_S) (c n : Nat) : am_j (am_mk S c n) (am_n S) = fun _ => 0 := am_up_s
theorem am_mk_r (S : am_S) (c n : Nat) : am_r (am_mk S c n) (am_n S) = fun _ => none := am_up_s
theorem am_mk_c (S : am_S) (c n : Nat) : am_c (am_mk S c n) (am_n S) = c := am_up_s
theorem am_mk_l (S : am_S) (c n : Nat) : am_l (am_mk S c n) (am_n S) = n := am_up_s
/-! ===== numbers ===== -/
theorem am_of1 {v : Int} (h : 0 ≤ v) : Int32.ofInt v = nI v.toNat := by
  obtain ⟨n, rfl⟩ := Int.eq_ofNat_of_zero_le h
  rfl
theorem am_of1L {v : Int} (h : 0 ≤ v) : Int64.ofInt v = lN v.toNat := by
  obtain ⟨n, rfl⟩ := Int.eq_ofNat_of_zero_le h
  rfl
theorem am_of8 {v : Int} (h1 : -129 < v) (h2 : v < 128) : (Int8.ofInt v).toInt32 = Int32.ofInt v := by
  apply Int32.toInt_inj.mp
  rw [Int8.toInt_toInt32, Int8.toInt_ofInt, Int32.toInt_ofInt, Int.bmod_eq_of_le (by have : (Int8.size : Int) = 256 := rfl; omega) (by have : (Int8.size : Int) = 256 := rfl; omega), Int.bmod_eq_of_le (by have : (Int32.size : Int) = 4294967296 := rfl; omega) (by have : (Int32.size : Int) = 4294967296 := rfl; omega)]
theorem am_of16 {v : Int} (h1 : -32769 < v) (h2 : v < 32768) : (Int16.ofInt v).toInt32 = Int32.ofInt v := by
  apply Int32.toInt_inj.mp
  rw [Int16.toInt_toInt32, Int16.toInt_ofInt, Int32.toInt_ofInt, Int.bmod_eq_of_le (by have : (Int16.size : Int) = 65536 := rfl; omega) (by have : (Int16.size : Int) = 65536 := rfl; omega), Int.bmod_eq_of_le (by have : (Int32.size : Int) = 4294967296 := rfl; omega) (by have : (Int32.size : Int) = 4294967296 := rfl; omega)]
theorem am_inc_eq (x : Int32) (c : Int) : x + Int32.ofInt c = am_inc x c := by
  cases c with
  | ofNat k => rfl
  | negSucc k =>
    show x + Int32.ofInt (Int.negSucc k) = x - nI (k + 1)
    rw [show (Int.negSucc k) = -((k + 1 : Nat) : Int) from rfl, Int32.ofInt_neg, Int32.sub_eq_add_neg]
    rfl
theorem lk_g_4 : ∀ q ∈ lk_g, q.2.2 < 4 := by decide +kernel
theorem am_xl_lt {L j : Nat} (h : L < 2 ^ 31) : am_xl L j < 2 ^ 31 := by
  unfold am_xl
  split <;> omega
theorem am_uw_good {C : String} {T : u_T} {N : Nat} : ∀ w ∈ u_ws C T N, goodWord w = true := by
  intro w hw
  obtain ⟨k, -, rfl⟩ := List.mem_map.mp hw
  unfold u_lay
  split <;> rfl
set_option maxRecDepth 100000 in
theorem am_instn_0 : ∀ w ∈ [Cond.instantiable RX0 6, Cond.initialized RX0], w ∈ lw_tbl := lk_sub [476, 111] rfl
set_option maxRecDepth 100000 in
theorem am_instn_1 : ∀ w ∈ [Cond.instantiable RX1 5, Cond.initialized RX1], w ∈ lw_tbl := lk_sub [267, 105] rfl
set_option maxRecDepth 100000 in
theorem am_instn_2 : ∀ w ∈ [Cond.instantiable RX2 3, Cond.initialized RX2], w ∈ lw_tbl := lk_sub [243, 104] rfl
set_option maxRecDepth 100000 in
theorem am_instn_3 : ∀ w ∈ [Cond.instantiable RX3 5, Cond.initialized RX3], w ∈ lw_tbl := lk_sub [143, 102] rfl
set_option maxRecDepth 100000 in
theorem am_instn_4 : ∀ w ∈ [Cond.instantiable RX4 7, Cond.initialized RX4], w ∈ lw_tbl := lk_sub [443, 110] rfl
set_option maxRecDepth 100000 in
theorem am_instn_5 : ∀ w ∈ [Cond.instantiable RX5 2, Cond.initialized RX5], w ∈ lw_tbl := lk_sub [401, 107] rfl
set_option maxRecDepth 100000 in
theorem am_instn_6 : ∀ w ∈ [Cond.instantiable RX6 3, Cond.initialized RX6], w ∈ lw_tbl := lk_sub [426, 109] rfl
set_option maxRecDepth 100000 in
theorem am_instn_7 : ∀ w ∈ [Cond.instantiable RX7 12, Cond.initialized RX7], w ∈ lw_tbl := lk_sub [167, 103] rfl
set_option maxRecDepth 100000 in
theorem am_instn_8 : ∀ w ∈ [Cond.instantiable RX8 1, Cond.initialized RX8], w ∈ lw_tbl := lk_sub [416, 108] rfl
set_option maxRecDepth 100000 in
theorem am_instn_9 : ∀ w ∈ [Cond.instantiable RX9 4, Cond.initialized RX9], w ∈ lw_tbl := lk_sub [302, 106] rfl
set_option maxRecDepth 100000 in
theorem am_instn_10 : ∀ w ∈ [Cond.instantiable RX10 15, Cond.initialized RX10], w ∈ lw_tbl := lk_sub [129, 101] rfl
set_option maxRecDepth 100000 in
theorem am_instn_11 : ∀ w ∈ [Cond.instantiable RX11 19, Cond.initialized RX11], w ∈ lw_tbl := lk_sub [121, 100] rfl
set_option maxRecDepth 100000 in
theorem am_instn_12 : ∀ w ∈ [Cond.instantiable RX12 37, Cond.initialized RX12], w ∈ lw_tbl := lk_sub [1216, 112] rfl
theorem am_instn : ∀ c, c < 13 → Cond.instantiable (am_on c) (am_N c) ∈ lw_tbl ∧ Cond.initialized (am_on c) ∈ lw_tbl := by
  intro c hc
  match c, hc with
  | 0, _ => exact ⟨am_instn_0 _ List.mem_cons_self, am_instn_0 _ (List.mem_cons_of_mem _ List.mem_cons_self)⟩
  | 1, _ => exact ⟨am_instn_1 _ List.mem_cons_self, am_instn_1 _ (List.mem_cons_of_mem _ List.mem_cons_self)⟩
  | 2, _ => exact ⟨am_instn_2 _ List.mem_cons_self, am_instn_2 _ (List.mem_cons_of_mem _ List.mem_cons_self)⟩
  | 3, _ => exact ⟨am_instn_3 _ List.mem_cons_self, am_instn_3 _ (List.mem_cons_of_mem _ List.mem_cons_self)⟩
  | 4, _ => exact ⟨am_instn_4 _ List.mem_cons_self, am_instn_4 _ (List.mem_cons_of_mem _ List.mem_cons_self)⟩
  | 5, _ => exact ⟨am_instn_5 _ List.mem_cons_self, am_instn_5 _ (List.mem_cons_of_mem _ List.mem_cons_self)⟩
  | 6, _ => exact ⟨am_instn_6 _ List.mem_cons_self, am_instn_6 _ (List.mem_cons_of_mem _ List.mem_cons_self)⟩
  | 7, _ => exact ⟨am_instn_7 _ List.mem_cons_self, am_instn_7 _ (List.mem_cons_of_mem _ List.mem_cons_self)⟩
  | 8, _ => exact ⟨am_instn_8 _ List.mem_cons_self, am_instn_8 _ (List.mem_cons_of_mem _ List.mem_cons_self)⟩
  | 9, _ => exact ⟨am_instn_9 _ List.mem_cons_self, am_instn_9 _ (List.mem_cons_of_mem _ List.mem_cons_self)⟩
  | 10, _ => exact ⟨am_instn_10 _ List.mem_cons_self, am_instn_10 _ (List.mem_cons_of_mem _ List.mem_cons_self)⟩
  | 11, _ => exact ⟨am_instn_11 _ List.mem_cons_self, am_instn_11 _ (List.mem_cons_of_mem _ List.mem_cons_self)⟩
  | 12, _ => exact ⟨am_instn_12 _ List.mem_cons_self, am_instn_12 _ (List.mem_cons_of_mem _ List.mem_cons_self)⟩
  | c + 13, h => exact absurd h (by omega)
theorem am_new_fs {c : Nat} (hc : c < 13) {S : am_S} {j : Nat} (hj : j < am_N c) : defaultValue (am_ty c j) = vp_V (am_fs (fun _ => 0) (am_mk S c (am_N c)) (am_n S) (am_ft c) 0) j := by
  have hlen : j < (am_ft c).length := by rw [am_ft_len c hc]; exact hj
  have h1 := am_fs_new (ad := fun _ => 0) (am_mk_i S c (am_N c)) (am_mk_j S c (am_N c)) (am_mk_r S c (am_N c)) (am_ft c) 0 j ((am_ft c).getD j 9) (by rw [List.getD_eq_getElem?_getD, List.getElem?_eq_getElem hlen]; rfl)
  unfold vp_V
  rw [List.getD_eq_getElem?_getD, h1, am_dflt c hc j hj]
  rfl
theorem am_gd_spec {S : am_S} {lo st : List Value} (h : am_gd S lo st = true) : am_n S < 1000 ∧ am_okl (am_n S) lo = true ∧ am_okl (am_n S) st = true := by
  unfold am_gd at h
  simp only [Bool.and_eq_true] at h
  exact ⟨by simpa [Nat.blt_eq] using h.1, h.2.1, h.2.2⟩
set_option maxRecDepth 100000 in
theorem am_w_ai : Cond.arrayClass .int ∈ lw_tbl := List.mem_of_getElem? (i := 166) rfl
set_option maxRecDepth 100000 in
theorem am_w_ab : Cond.arrayClass .byte ∈ lw_tbl := List.mem_of_getElem? (i := 474) rfl
set_option maxRecDepth 100000 in
theorem am_w_al : Cond.arrayClass .long ∈ lw_tbl := List.mem_of_getElem? (i := 414) rfl
set_option maxRecDepth 100000 in
theorem am_w_oi : Cond.instanceMethod objectInit ∈ lw_tbl := List.mem_of_getElem? (i := 126) rfl
set_option maxRecDepth 100000 in
theorem am_w_oc : Cond.code objectInit ⟨#[0xb1]⟩ 1 none ∈ lw_tbl := List.mem_of_getElem? (i := 127) rfl
set_option maxRecDepth 100000 in
theorem am_w_cn : Cond.native arraycopyName ∈ lw_tbl := List.mem_of_getElem? (i := 844) rfl
set_option maxRecDepth 100000 in
theorem am_w_cs : Cond.static arraycopyName ∈ lw_tbl := List.mem_of_getElem? (i := 843) rfl
set_option maxRecDepth 100000 in
theorem am_w_ci : Cond.initialized "java/lang/System" ∈ lw_tbl := List.mem_of_getElem? (i := 117) rfl
theorem am_cA_int {U : State} {a b : ClassId} (h1 : va_RA U a .int) (h2 : va_RA U b .int) : b = a := Option.some.inj (h2.symm.trans h1)
theorem am_cA_byte {U : State} {a b : ClassId} (h1 : va_RA U a .byte) (h2 : va_RA U b .byte) : b = a := Option.some.inj (h2.symm.trans h1)
theorem am_cA_long {U : State} {a b : ClassId} (h1 : va_RA U a .long) (h2 : va_RA U b .long) : b = a := Option.some.inj (h2.symm.trans h1)
theorem am_cA_obj {U : State} {a b : ClassId} {C : String} (h1 : va_RA U a (.object C)) (h2 : va_RA U b (.object C)) : b = a := by
  obtain ⟨_, _, -, -, -, e1⟩ := h1
  obtain ⟨_, _, -, -, -, e2⟩ := h2
  exact Option.some.inj (e2.symm.trans e1)
theorem am_sw_spec (x : Int32) {d : am_R} {K : Nat → am_R} {r : Option Value × am_S} : ∀ (ts : List Int) (lo : Nat), lo + ts.length < 100000 → am_sw x d K lo ts = some r →
    (∃ (j : Nat) (t : Int), ts[j]? = some t ∧ x = nI (lo + j) ∧ K t.toNat = some r) ∨ ((∀ j, j < ts.length → x ≠ nI (lo + j)) ∧ d = some r)
  | [], lo, _, h => Or.inr ⟨fun j hj => absurd hj (by simp), h⟩
  | t :: ts, lo, hl, h => by
    have h : (if x = nI lo then K t.toNat else am_sw x d K (lo + 1) ts) = some r := h
    by_cases hx : x = nI lo
    · rw [if_pos hx] at h
      exact Or.inl ⟨0, t, rfl, hx, h⟩
    · rw [if_neg hx] at h
      rcases am_sw_spec x ts (lo + 1) (by simp only [List.length_cons] at hl; omega) h with ⟨j, t', h1, h2, h3⟩ | ⟨h1, h2⟩
      · exact Or.inl ⟨j + 1, t', h1, by rw [h2, show lo + 1 + j = lo + (j + 1) by omega], h3⟩
      · refine Or.inr ⟨fun j hj => ?_, h2⟩
        cases j with
        | zero => exact hx
        | succ j =>
          have := h1 j (by simpa using hj)
          rw [show lo + 1 + j = lo + (j + 1) by omega] at this
          exact this
theorem am_lk_spec {y i : Nat} {dd : Int} (x : Int32) (d : am_R) (K : Nat → am_R) : ∀ (ps : List (Int × Int)), ps.all (fun t => decide (0 ≤ t.1 ∧ t.1 < 100000)) = true →
    ∃ tg : Nat, Op.lookupswitch.offset (ps.map fun t => (t.1, (am_P y t.2.toNat : Int) - am_P y i)) ((am_P y dd.toNat : Int) - am_P y i) x.toInt = (am_P y tg : Int) - am_P y i ∧ (d = K dd.toNat → am_lk x d K ps = K tg)
  | [], _ => ⟨dd.toNat, rfl, fun h => h⟩
  | t :: ps, h => by
    simp only [List.all_cons, Bool.and_eq_true, decide_eq_true_eq] at h
    obtain ⟨tg, h1, h2⟩ := am_lk_spec (y := y) (i := i) (dd := dd) x d K ps h.2
    by_cases hx : x = nI t.1.toNat
    · refine ⟨t.2.toNat, ?_, fun _ => ?_⟩
      · rw [List.map_cons, Op.lookupswitch.offset_cons, if_pos]
        rw [hx, nI_toInt (by omega)]
        omega
      · show (if x = nI t.1.toNat then _ else _) = _
        rw [if_pos hx]
    · refine ⟨tg, ?_, fun hd => ?_⟩
      · rw [List.map_cons, Op.lookupswitch.offset_cons, if_neg, h1]
        intro e
        apply hx
        apply Int32.toInt_inj.mp
        rw [nI_toInt (by omega)]
        omega
      · show (if x = nI t.1.toNat then _ else _) = _
        rw [if_neg hx]
        exact h2 hd
theorem am_sorted (ps : List (Int × Int)) (g : Int × Int → Int × Int) (hg : ∀ z, (g z).1 = z.1) (h : (ps.zip (ps.drop 1)).all (fun (a, next) => decide (a.1 < next.1)) = true) : ((ps.map g).zip ((ps.map g).drop 1)).all (fun (a, next) => a.1 < next.1) = true := by
  rw [← List.map_drop, List.zip_map, List.all_map]
  rw [List.all_eq_true] at h ⊢
  intro z hz
  have := h z hz
  simpa [hg] using this
def am_wsl : List Cond := .code ⟨"java/lang/String", "length", "()I"⟩ prog_17_method_54_code 1 (some .int) :: lw_gw
def am_wsc : List Cond := .code ⟨"java/lang/String", "charAt", "(I)C"⟩ prog_17_method_56_code 2 (some .char) :: lw_gw
/-- length() and charAt(k) of the texts -/
def am_Str (l : Launch) : Prop := ∀ (A : Nat → Prop) (ad adV : Nat → Nat) (L : Nat) (xs : Nat → Int32) (i : Nat), i < 12 →
  Met l ⟨"java/lang/String", "length", "()I"⟩ am_wsl { frames := 2, cells := 0, slots := 0, locals := 64 } (va_Pc [.ref (ad (4000000 + i))] (fun U => am_E A ad adV L xs U U.heap)) (fun _ st oc t => oc = .returned (some (.int (nI (am_sl.getD i 0)))) ∧ t.heap = st.heap) 0 0 A ∧
  ∀ k, k < am_sl.getD i 0 → Met l ⟨"java/lang/String", "charAt", "(I)C"⟩ am_wsc { frames := 6, cells := 0, slots := 0, locals := 256 } (va_Pc [.ref (ad (4000000 + i)), .int (nI k)] (fun U => am_E A ad adV L xs U U.heap)) (fun _ st oc t => oc = .returned (some (.int ((am_bt.getD i []).getD k 0))) ∧ t.heap = st.heap) 0 0 A
theorem am_sl_lt (i : Nat) : am_sl.getD i 0 < 2 ^ 31 := by
  have h : ∀ x ∈ am_sl, x < 2 ^ 31 := by decide +kernel
  rw [List.getD_eq_getElem?_getD]
  cases hi : am_sl[i]? with
  | none => decide
  | some x => exact h x (List.mem_of_getElem? hi)
theorem am_mem_lk {l : List (Nat × Nat × Nat)} {q : Nat × Nat × Nat} (h : l.contains q = true) : q ∈ l := by simpa using h
theorem am_bV_spec {o : am_R} {k : am_S → am_R} {r : Option Value × am_S} (h : am_bV o k = some r) : ∃ S', o = some (none, S') ∧ k S' = some r := by
  rcases o with _ | ⟨_ | v, S⟩
  · exact am_noh h
  · exact ⟨S, rfl, h⟩
  · exact am_noh h
theorem am_bI_spec {o : am_R} {k : Int32 → am_S → am_R} {r : Option Value × am_S} (h : am_bI o k = some r) : ∃ x S', o = some (some (.int x), S') ∧ k x S' = some r := by
  rcases o with _ | ⟨_ | v, S⟩
  · exact am_noh h
  · exact am_noh h
  · cases v <;> first | exact ⟨_, S, rfl, h⟩ | exact am_noh h
theorem am_bJ_spec {o : am_R} {k : Int64 → am_S → am_R} {r : Option Value × am_S} (h : am_bJ o k = some r) : ∃ x S', o = some (some (.long x), S') ∧ k x S' = some r := by
  rcases o with _ | ⟨_ | v, S⟩
  · exact am_noh h
  · exact am_noh h
  · cases v <;> first | exact ⟨_, S, rfl, h⟩ | exact am_noh h
theorem am_bA_spec {o : am_R} {k : Nat → am_S → am_R} {r : Option Value × am_S} (h : am_bA o k = some r) : ∃ x S', o = some (some (.ref x), S') ∧ k x S' = some r := by
  rcases o with _ | ⟨_ | v, S⟩
  · exact am_noh h
  · exact am_noh h
  · cases v <;> first | exact ⟨_, S, rfl, h⟩ | exact am_noh h
theorem am_ca_spec {o : am_R} {K : List Value → am_S → am_R} {rest : List Value} {q : Nat} {r : Option Value × am_S} (h : (match q with
      | 0 => am_bV o fun S => K rest S
      | 1 => am_bI o fun x S => K (.int x :: rest) S
      | 2 => am_bJ o fun x S => K (.long x :: rest) S
      | _ => am_bA o fun x S => K (.ref x :: rest) S) = some r) : ∃ v S', o = some (v, S') ∧ K (v.toList ++ rest) S' = some r := by
  rcases q with _ | _ | _ | q
  · obtain ⟨S', h1, h2⟩ := am_bV_spec h
    exact ⟨none, S', h1, h2⟩
  · obtain ⟨x, S', h1, h2⟩ := am_bI_spec h
    exact ⟨some (.int x), S', h1, h2⟩
  · obtain ⟨x, S', h1, h2⟩ := am_bJ_spec h
    exact ⟨some (.long x), S', h1, h2⟩
  · obtain ⟨x, S', h1, h2⟩ := am_bA_spec h
    exact ⟨some (.ref x), S', h1, h2⟩
theorem am_ans {n : Nat} {ad ad' : Nat → Nat} (hg : am_ag n ad ad') {v : Option Value} (hv : ∀ x, v = some (.ref x) → 2000000 ≤ x) (dr : List Value) : (v.map (am_tr ad')).toList ++ dr.map (am_tr ad) = (v.toList ++ dr).map (am_tr ad) := by
  rw [List.map_append]
  congr 1
  cases v with
  | none => rfl
  | some w =>
    cases w with
    | ref x =>
      show [Value.ref (ad' x)] = [Value.ref (ad x)]
      rw [hg x (Or.inr (hv x rfl))]
    | _ => rfl
theorem am_Eb {A : Nat → Prop} {ad adV : Nat → Nat} {L : Nat} {xs : Nat → Int32} {av : List Value} : FrameBlind (va_Pc av (fun U => am_E A ad adV L xs U U.heap)) := by
  intro a U g mk q
  exact ⟨q.1, am_E.same (U := U.calling g mk a) rfl q.2⟩
set_option maxRecDepth 100000 in
theorem am_gtl_w : ∀ w ∈ [Cond.instanceMethod ⟨"java/lang/String", "length", "()I"⟩, Cond.selects "java/lang/String" ⟨"java/lang/String", "length", "()I"⟩ ⟨"java/lang/String", "length", "()I"⟩, Cond.initialized "java/lang/String", Cond.code ⟨"java/lang/String", "length", "()I"⟩ prog_17_method_54_code 1 (some .int)], w ∈ lw_tbl := lk_sub [741, 742, 113, 743] rfl
theorem am_gtl {o idx : Nat} (hm : (o, idx, 0) ∈ lk_t) : GoodIn lw_gw (wsV (am_on o) idx "java/lang/String" ⟨"java/lang/String", "length", "()I"⟩ am_wsl) := by
  intro w hw
  unfold wsV at hw
  simp only [List.cons_append, List.nil_append, List.mem_cons] at hw
  rcases hw with rfl | rfl | rfl | rfl | hw
  · exact ⟨lw_gw_in (lk_t_ok _ hm) rfl, Or.inl rfl⟩
  · exact ⟨lw_gw_in (am_gtl_w _ List.mem_cons_self) rfl, Or.inl rfl⟩
  · exact ⟨lw_gw_in (am_gtl_w _ (List.mem_cons_of_mem _ List.mem_cons_self)) rfl, Or.inl rfl⟩
  · exact ⟨lw_gw_in (am_gtl_w _ (List.mem_cons_of_mem _ (List.mem_cons_of_mem _ List.mem_cons_self))) rfl, Or.inl rfl⟩
  · rcases List.mem_cons.mp hw with rfl | hw
    · exact ⟨lw_gw_in (am_gtl_w _ (List.mem_cons_of_mem _ (List.mem_cons_of_mem _ (List.mem_cons_of_mem _ List.mem_cons_self)))) rfl, Or.inl rfl⟩
    · exact ⟨hw, good_of_word (List.mem_filter.mp hw).2⟩
set_option maxRecDepth 100000 in
theorem am_gtc_w : ∀ w ∈ [Cond.instanceMethod ⟨"java/lang/String", "charAt", "(I)C"⟩, Cond.selects "java/lang/String" ⟨"java/lang/String", "charAt", "(I)C"⟩ ⟨"java/lang/String", "charAt", "(I)C"⟩, Cond.initialized "java/lang/String", Cond.code ⟨"java/lang/String", "charAt", "(I)C"⟩ prog_17_method_56_code 2 (some .char)], w ∈ lw_tbl := lk_sub [751, 752, 113, 753] rfl
theorem am_gtc {o idx : Nat} (hm : (o, idx, 1) ∈ lk_t) : GoodIn lw_gw (wsV (am_on o) idx "java/lang/String" ⟨"java/lang/String", "charAt", "(I)C"⟩ am_wsc) := by
  intro w hw
  unfold wsV at hw
  simp only [List.cons_append, List.nil_append, List.mem_cons] at hw
  rcases hw with rfl | rfl | rfl | rfl | hw
  · exact ⟨lw_gw_in (lk_t_ok _ hm) rfl, Or.inl rfl⟩
  · exact ⟨lw_gw_in (am_gtc_w _ List.mem_cons_self) rfl, Or.inl rfl⟩
  · exact ⟨lw_gw_in (am_gtc_w _ (List.mem_cons_of_mem _ List.mem_cons_self)) rfl, Or.inl rfl⟩
  · exact ⟨lw_gw_in (am_gtc_w _ (List.mem_cons_of_mem _ (List.mem_cons_of_mem _ List.mem_cons_self))) rfl, Or.inl rfl⟩
  · rcases List.mem_cons.mp hw with rfl | hw
    · exact ⟨lw_gw_in (am_gtc_w _ (List.mem_cons_of_mem _ (List.mem_cons_of_mem _ (List.mem_cons_of_mem _ List.mem_cons_self)))) rfl, Or.inl rfl⟩
    · exact ⟨hw, good_of_word (List.mem_filter.mp hw).2⟩
end
section
/-! ===== calls ===== -/
def am_Cx (p : Program) (s : State) (m : MethodId) (args : Array Value) (meth : Method) (c : Code) (A : Nat → Prop) (D : va_G) (dA : Nat → ClassId) (y : Nat) : Prop :=
  p.tables.exec = Jvm.exec ∧ c.code = pg_by y ∧ c.maxLocals = pg_mx y ∧ s.vm.findClass (am_on (pg_ow y)) = some m.cls ∧ (∀ w ∈ lw_gw, w.before args s = true) ∧ va_K D vwCl (am_tys dA) s ∧ am_NW s ∧ (∀ q, s.heap.size ≤ q → A q) ∧ ((pg_nm y).name = "<init>" → meth.name = "<init>")
def am_Pt (s : State) (A : Nat → Prop) (D : va_G) (dA : Nat → ClassId) (adV : Nat → Nat) (L : Nat) (xs : Nat → Int32) (y : Nat) (ad : Nat → Nat) (S : am_S) (H : Heap) (locs : List Loc) (ls : Array Slot) (lo : List Value) : Prop :=
  va_P D vwCl (am_wd dA ad S) H ∧ va_D A (am_wd dA ad S) ∧ va_S A s.heap H locs ∧ am_Iv L xs S ∧ am_E A ad adV L xs s s.heap ∧ am_has ad ls (pg_mx y) lo
theorem pg_cls : ∀ z ∈ pg_ys.flatten, (pg_nm z).cls = am_on (pg_ow z) ∧ (pg_nm z).cls ≠ "java/lang/invoke/MethodHandle" ∧ (pg_nm z).cls ≠ "java/lang/invoke/VarHandle" := by decide +kernel
theorem pg_w_code {z : Nat} (h : z ∈ pg_ys.flatten) : Cond.initialized (pg_nm z).cls ∈ lw_tbl := pg_w_ok z h _ (List.mem_cons_of_mem _ List.mem_cons_self)
theorem pg_w_st {z : Nat} (h : z ∈ pg_ys.flatten) (hs : pg_is z = true) : Cond.static (pg_nm z) ∈ lw_tbl := by
  refine pg_w_ok z h _ ?_
  unfold pg_w
  rw [hs]
  simp
theorem pg_w_in {z : Nat} (h : z ∈ pg_ys.flatten) (hs : pg_is z = false) : Cond.instanceMethod (pg_nm z) ∈ lw_tbl := by
  refine pg_w_ok z h _ ?_
  unfold pg_w
  rw [hs]
  by_cases hn : (pg_nm z).name = "<init>" <;> simp [hn]
theorem pg_w_se {z : Nat} (h : z ∈ pg_ys.flatten) (hs : pg_is z = false) (hn : (pg_nm z).name ≠ "<init>") : Cond.selects (pg_nm z).cls (pg_nm z) (pg_nm z) ∈ lw_tbl := by
  refine pg_w_ok z h _ ?_
  unfold pg_w
  rw [hs]
  simp [hn]
/-- what the check of a call says -/
theorem am_cok_spec {z : Nat} {k : Bool} (h : am_cok z k = true) : z ∈ pg_ys.flatten ∧ pg_is z = k ∧ pg_mx z ≤ 40 ∧ (∃ n, (parseMethodDescriptor (pg_nm z).desc).map (fun d => d.parameters.length) = some n ∧ (pg_sg z).1 = (if k then n else n + 1)) := by
  unfold am_cok at h
  simp only [Bool.and_eq_true, decide_eq_true_eq, beq_iff_eq] at h
  obtain ⟨⟨⟨⟨h1, h2⟩, h3⟩, h4⟩, -⟩ := h
  refine ⟨by simpa using h1, h2, h3, ?_⟩
  unfold am_ar at h4
  cases hn : (parseMethodDescriptor (pg_nm z).desc).map (fun d => d.parameters.length) with
  | none => rw [hn] at h4; cases h4
  | some n =>
    rw [hn] at h4
    exact ⟨n, rfl, by simpa using h4⟩
theorem am_room1 {d R : Nat} (h : d + 9 ≤ R) : d + 8 + 1 ≤ R := h
set_option maxRecDepth 10000 in
theorem am_room2 {a d R : Nat} (h : a ≤ 40) (h2 : 64 * (d + 9) ≤ R) : 8 + (a + 11) + 64 * (d + 8) ≤ R := by omega
section CL
variable {p : Program} {l : Launch} {e : Env} {R : Room} {s : State} {m : MethodId} {args : Array Value} {below : List Frame} {meth : Method} {c : Code} {Q : State → Prop}
variable {A : Nat → Prop} {D : va_G} {dA : Nat → ClassId} {adV : Nat → Nat} {L : Nat} {xs : Nat → Int32}
variable {ad : Nat → Nat} {S S' : am_S} {H : Heap} {locs : List Loc} {ls : Array Slot} {cells slots pc idx d y z : Nat} {v : Option Value} {As rest : List Value} {b : Nat}
theorem am_pre (hK : va_K D vwCl (am_tys dA) s) (hNW : am_NW s) (hA : ∀ q, s.heap.size ≤ q → A q) (hP : va_P D vwCl (am_wd dA ad S) H) (hD : va_D A (am_wd dA ad S)) (hS : va_S A s.heap H locs) (hIv : am_Iv L xs S) (hE : am_E A ad adV L xs s s.heap) {U : State} (hU : U.heap = H) (hW : s.WarmedH U.vm) : am_B A D dA ad adV L xs S U :=
  ⟨va_K.moved hW.alike hK, hNW.warm hW, by rw [hU]; exact (hE.kept hS.2.1).warm hW, by rw [hU]; exact hP, hD, hIv, fun q hq => hA q (Nat.le_trans hS.1 (by rw [← hU]; exact hq))⟩
set_option maxHeartbeats 4000000 in
set_option maxRecDepth 10000 in
theorem am_cl0 (hC : am_Cx p s m args meth c A D dA y) (hM : am_M l d z (.ref b :: As) S v S') (hL31 : L < 2 ^ 31) (hm : (pg_ow y, idx, z) ∈ lk_m) (hck : am_cok z false = true) (hni : (pg_nm z).name ≠ "<init>") (how : pg_ow z < 13) (hb1 : am_c S b = pg_ow z) (hn : As.length + 1 = (pg_sg z).1)
    (hP : va_P D vwCl (am_wd dA ad S) H) (hD : va_D A (am_wd dA ad S)) (hS : va_S A s.heap H locs) (hIv : am_Iv L xs S) (hE : am_E A ad adV L xs s s.heap) (hls : ls.size = pg_mx y) (hcat : am_cat rest ≤ 8) (hdg : decode (pg_by y) pc = .ok (.invokevirtual idx, 3)) (hR1 : d + 9 ≤ R.frames) (hR2 : 64 * (d + 9) ≤ R.locals)
    (hfc : cells + (am_n S' - am_n S) ≤ R.cells ∧ slots + (am_w S' - am_w S) ≤ R.slots)
    (kk : ∀ (ad' : Nat → Nat) (H1 : Heap) (locs1 : List Loc), am_ag (am_n S) ad ad' → va_P D vwCl (am_wd dA ad' S') H1 → va_D A (am_wd dA ad' S') → va_S A s.heap H1 locs1 → am_Iv L xs S' → (∀ x, v = some (.ref x) → 2000000 ≤ x) → W p l e R s m args below meth c H1 locs1 (cells + (am_n S' - am_n S)) (slots + (am_w S' - am_w S)) Q (F0 m (pc + 3) ls ((v.map (am_tr ad')).toList ++ rest.map (am_tr ad)))) :
    W p l e R s m args below meth c H locs cells slots Q (F0 m pc ls ((As.map (am_tr ad)).reverse ++ .ref (ad b) :: rest.map (am_tr ad))) := by
  obtain ⟨hx, hb, hml, hown, hts, hK, hNW, hA, hnm⟩ := hC
  have hmx := (am_cok_spec hck).2.2.1
  have hroom : ({ frames := d + 8, cells := am_n S' - am_n S, slots := am_w S' - am_w S, locals := 64 * (d + 8) } : Room).frames + 1 ≤ R.frames ∧ 8 + (pg_mx z + 11) + ({ frames := d + 8, cells := am_n S' - am_n S, slots := am_w S' - am_w S, locals := 64 * (d + 8) } : Room).locals ≤ R.locals := ⟨am_room1 hR1, am_room2 hmx hR2⟩
  obtain ⟨hz, his, -, n, hpn, hsg⟩ := am_cok_spec hck
  obtain ⟨hcls, hmh⟩ := pg_cls z hz
  have hsg : (pg_sg z).1 = n + 1 := hsg
  have hT : GoodIn lw_gw (wsV (am_on (pg_ow y)) idx (pg_nm z).cls (pg_nm z) (pg_ws z)) := by
    intro w hw
    unfold wsV at hw
    simp only [List.cons_append, List.nil_append, List.mem_cons] at hw
    rcases hw with rfl | rfl | rfl | rfl | hw
    · exact ⟨lw_gw_in (lk_m_ok _ hm) rfl, Or.inl rfl⟩
    · exact ⟨lw_gw_in (pg_w_in hz his) rfl, Or.inl rfl⟩
    · exact ⟨lw_gw_in (pg_w_se hz his hni) rfl, Or.inl rfl⟩
    · exact ⟨lw_gw_in (pg_w_code hz) rfl, Or.inl rfl⟩
    · exact pg_ws_in hz w hw
  have hws := am_wd_at (dA := dA) (ad := ad) (hIv.1 b (by clear hz; omega)).1
  rw [am_ce_o hb1 (by clear hz; omega)] at hws
  have hrecv := va_recv hK hP (am_cl _ how) hws
  rw [show ((am_on (pg_ow z), am_T (pg_ow z), am_N (pg_ow z)) : vw_C).1 = (pg_nm z).cls from hcls.symm] at hrecv
  have hM1 := hM A D dA ad adV L xs hL31
  have cw : CallW R s args (am_on (pg_ow y)) (pg_nm z).cls idx (pg_nm z) (pg_by z) (pg_mx z) (pg_rt z) (pg_ws z) { frames := d + 8, cells := am_n S' - am_n S, slots := am_w S' - am_w S, locals := 64 * (d + 8) } (am_n S' - am_n S) (am_w S' - am_w S) n := cwV n hts hT (ws' := lw_gw) rfl rfl rfl ⟨rfl, hmh.1, hmh.2, hpn⟩ hroom
  have hp : PreV s H (pg_nm z).cls (ad b) (va_Pc ((.ref b :: As).map (am_tr ad)) (am_B A D dA ad adV L xs S)) (As.map (am_tr ad)) := ⟨am_B.blind, hrecv, fun U hU hW => ⟨rfl, am_pre hK hNW hA hP hD hS hIv hE hU hW⟩⟩
  have hr := va_runV (p := p) (e := e) (below := below) (locs := locs) (cells := cells) (slots := slots) (meth := meth) (As := As.map (am_tr ad)) (rest := rest.map (am_tr ad)) (g := F0 m pc ls ((As.map (am_tr ad)).reverse ++ .ref (ad b) :: rest.map (am_tr ad))) ⟨hx, hb, hml, hown, hts⟩ hM1 cw hp rfl (by rw [List.length_map]; clear hz; omega) hls rfl (lv_room (by rw [am_cat_tr]; exact hcat)) hdg hfc
  refine am_callk hr hS (fun ad' t H1 locs1 ht hvm hg hB hS1 => ?_)
  obtain ⟨hP1, hD1, hI1, hr1⟩ := hB
  rw [ht] at hP1
  exact kk ad' H1 locs1 hg hP1 hD1 hS1 hI1 hr1
set_option maxHeartbeats 4000000 in
set_option maxRecDepth 10000 in
theorem am_cl1 (hC : am_Cx p s m args meth c A D dA y) (hM : am_M l d z As S v S') (hL31 : L < 2 ^ 31) (hm : (pg_ow y, idx, z) ∈ lk_m) (hck : am_cok z true = true) (hn : As.length = (pg_sg z).1)
    (hP : va_P D vwCl (am_wd dA ad S) H) (hD : va_D A (am_wd dA ad S)) (hS : va_S A s.heap H locs) (hIv : am_Iv L xs S) (hE : am_E A ad adV L xs s s.heap) (hls : ls.size = pg_mx y) (hcat : am_cat rest ≤ 8) (hdg : decode (pg_by y) pc = .ok (.invokestatic idx, 3)) (hR1 : d + 9 ≤ R.frames) (hR2 : 64 * (d + 9) ≤ R.locals)
    (hfc : cells + (am_n S' - am_n S) ≤ R.cells ∧ slots + (am_w S' - am_w S) ≤ R.slots)
    (kk : ∀ (ad' : Nat → Nat) (H1 : Heap) (locs1 : List Loc), am_ag (am_n S) ad ad' → va_P D vwCl (am_wd dA ad' S') H1 → va_D A (am_wd dA ad' S') → va_S A s.heap H1 locs1 → am_Iv L xs S' → (∀ x, v = some (.ref x) → 2000000 ≤ x) → W p l e R s m args below meth c H1 locs1 (cells + (am_n S' - am_n S)) (slots + (am_w S' - am_w S)) Q (F0 m (pc + 3) ls ((v.map (am_tr ad')).toList ++ rest.map (am_tr ad)))) :
    W p l e R s m args below meth c H locs cells slots Q (F0 m pc ls ((As.map (am_tr ad)).reverse ++ rest.map (am_tr ad))) := by
  obtain ⟨hx, hb, hml, hown, hts, hK, hNW, hA, hnm⟩ := hC
  have hmx := (am_cok_spec hck).2.2.1
  have hroom : ({ frames := d + 8, cells := am_n S' - am_n S, slots := am_w S' - am_w S, locals := 64 * (d + 8) } : Room).frames + 1 ≤ R.frames ∧ 8 + (pg_mx z + 11) + ({ frames := d + 8, cells := am_n S' - am_n S, slots := am_w S' - am_w S, locals := 64 * (d + 8) } : Room).locals ≤ R.locals := ⟨am_room1 hR1, am_room2 hmx hR2⟩
  obtain ⟨hz, his, -, n, hpn, hsg⟩ := am_cok_spec hck
  obtain ⟨hcls, hmh⟩ := pg_cls z hz
  have hsg : (pg_sg z).1 = n := hsg
  have hT : GoodIn lw_gw (va_wsS (am_on (pg_ow y)) idx (pg_nm z) (pg_ws z)) := by
    intro w hw
    unfold va_wsS at hw
    simp only [List.cons_append, List.nil_append, List.mem_cons] at hw
    rcases hw with rfl | rfl | rfl | hw
    · exact ⟨lw_gw_in (lk_m_ok _ hm) rfl, Or.inl rfl⟩
    · exact ⟨lw_gw_in (pg_w_st hz his) rfl, Or.inl rfl⟩
    · exact ⟨lw_gw_in (pg_w_code hz) rfl, Or.inl rfl⟩
    · exact pg_ws_in hz w hw
  have hM1 := hM A D dA ad adV L xs hL31
  have cw : CallB R s args (am_on (pg_ow y)) idx (pg_nm z) (pg_by z) (pg_mx z) (pg_rt z) (pg_ws z) { frames := d + 8, cells := am_n S' - am_n S, slots := am_w S' - am_w S, locals := 64 * (d + 8) } (am_n S' - am_n S) (am_w S' - am_w S) n ∧ (Cond.static (pg_nm z)).before args s = true := va_cwS n hts hT (ws' := lw_gw) rfl rfl rfl ⟨hmh.1, hmh.2, hpn⟩ hroom
  have hp : PreS s H (va_Pc (As.map (am_tr ad)) (am_B A D dA ad adV L xs S)) (As.map (am_tr ad)) := ⟨am_B.blind, fun U hU hW => ⟨rfl, am_pre hK hNW hA hP hD hS hIv hE hU hW⟩⟩
  have hr := va_runS (p := p) (e := e) (below := below) (locs := locs) (cells := cells) (slots := slots) (meth := meth) (As := As.map (am_tr ad)) (rest := rest.map (am_tr ad)) (g := F0 m pc ls ((As.map (am_tr ad)).reverse ++ rest.map (am_tr ad))) ⟨hx, hb, hml, hown, hts⟩ hM1 cw hp rfl (by rw [List.length_map]; clear hz; omega) hls rfl (lv_room (by rw [am_cat_tr]; exact hcat)) hdg hfc
  refine am_callk hr hS (fun ad' t H1 locs1 ht hvm hg hB hS1 => ?_)
  obtain ⟨hP1, hD1, hI1, hr1⟩ := hB
  rw [ht] at hP1
  exact kk ad' H1 locs1 hg hP1 hD1 hS1 hI1 hr1
set_option maxHeartbeats 4000000 in
set_option maxRecDepth 10000 in
theorem am_cl2 (hC : am_Cx p s m args meth c A D dA y) (hM : am_M l d z As S v S') (hL31 : L < 2 ^ 31) (hm : (pg_ow y, idx, z, 11) ∈ lk_nm) (hck : am_cok z true = true) (hn : As.length = (pg_sg z).1)
    (hP : va_P D vwCl (am_wd dA ad S) H) (hD : va_D A (am_wd dA ad S)) (hS : va_S A s.heap H locs) (hIv : am_Iv L xs S) (hE : am_E A ad adV L xs s s.heap) (hls : ls.size = pg_mx y) (hcat : am_cat rest ≤ 8) (hdg : decode (pg_by y) pc = .ok (.invokestatic idx, 3)) (hR1 : d + 9 ≤ R.frames) (hR2 : 64 * (d + 9) ≤ R.locals)
    (hfc : cells + (am_n S' - am_n S) ≤ R.cells ∧ slots + (am_w S' - am_w S) ≤ R.slots)
    (kk : ∀ (ad' : Nat → Nat) (H1 : Heap) (locs1 : List Loc), am_ag (am_n S) ad ad' → va_P D vwCl (am_wd dA ad' S') H1 → va_D A (am_wd dA ad' S') → va_S A s.heap H1 locs1 → am_Iv L xs S' → (∀ x, v = some (.ref x) → 2000000 ≤ x) → W p l e R s m args below meth c H1 locs1 (cells + (am_n S' - am_n S)) (slots + (am_w S' - am_w S)) Q (F0 m (pc + 3) ls ((v.map (am_tr ad')).toList ++ rest.map (am_tr ad)))) :
    W p l e R s m args below meth c H locs cells slots Q (F0 m pc ls ((As.map (am_tr ad)).reverse ++ rest.map (am_tr ad))) := by
  obtain ⟨hx, hb, hml, hown, hts, hK, hNW, hA, hnm⟩ := hC
  have hmx := (am_cok_spec hck).2.2.1
  have hroom : ({ frames := d + 8, cells := am_n S' - am_n S, slots := am_w S' - am_w S, locals := 64 * (d + 8) } : Room).frames + 1 ≤ R.frames ∧ 8 + (pg_mx z + 11) + ({ frames := d + 8, cells := am_n S' - am_n S, slots := am_w S' - am_w S, locals := 64 * (d + 8) } : Room).locals ≤ R.locals := ⟨am_room1 hR1, am_room2 hmx hR2⟩
  obtain ⟨hz, his, -, n, hpn, hsg⟩ := am_cok_spec hck
  obtain ⟨hcls, hmh⟩ := pg_cls z hz
  have hsg : (pg_sg z).1 = n := hsg
  have hin : ∀ {w : Cond}, w ∈ lw_tbl → goodWord w = true → w.before args s = true := fun h1 h2 => hts _ (lw_gw_in h1 h2)
  have hnw : va_Nw (.methodLinkNest (am_on (pg_ow y)) idx (pg_nm z) (am_on 11)) s := hNW.1 (pg_ow y, idx, z, 11) hm
  have hM1 := hM A D dA ad adV L xs hL31
  have cw : va_CN R s args (am_on (pg_ow y)) idx (pg_nm z) (am_on 11) (pg_by z) (pg_mx z) (pg_rt z) (pg_ws z) { frames := d + 8, cells := am_n S' - am_n S, slots := am_w S' - am_w S, locals := 64 * (d + 8) } (am_n S' - am_n S) (am_w S' - am_w S) n ∧ (Cond.static (pg_nm z)).before args s = true ∧ True := ⟨va_cnB n hts (pg_ws_in hz) (ws' := lw_gw) rfl rfl rfl hnw (hin (pg_w_code hz) rfl) ⟨hmh.1, hmh.2, hpn⟩ hroom, hin (pg_w_st hz his) rfl, trivial⟩
  have hp : PreS s H (va_Pc (As.map (am_tr ad)) (am_B A D dA ad adV L xs S)) (As.map (am_tr ad)) := ⟨am_B.blind, fun U hU hW => ⟨rfl, am_pre hK hNW hA hP hD hS hIv hE hU hW⟩⟩
  have hr := va_runSN (p := p) (e := e) (below := below) (locs := locs) (cells := cells) (slots := slots) (meth := meth) (As := As.map (am_tr ad)) (rest := rest.map (am_tr ad)) (g := F0 m pc ls ((As.map (am_tr ad)).reverse ++ rest.map (am_tr ad))) ⟨hx, hb, hml, hown, hts⟩ hM1 cw hp rfl (by rw [List.length_map]; clear hz; omega) hls rfl (lv_room (by rw [am_cat_tr]; exact hcat)) hdg hfc
  refine am_callk hr hS (fun ad' t H1 locs1 ht hvm hg hB hS1 => ?_)
  obtain ⟨hP1, hD1, hI1, hr1⟩ := hB
  rw [ht] at hP1
  exact kk ad' H1 locs1 hg hP1 hD1 hS1 hI1 hr1
set_option maxHeartbeats 4000000 in
set_option maxRecDepth 10000 in
theorem am_cl3 (hC : am_Cx p s m args meth c A D dA y) (hM : am_M l d z (.ref b :: As) S v S') (hL31 : L < 2 ^ 31) (hm : (pg_ow y, idx, z) ∈ lk_m) (hck : am_cok z false = true) (hni : (pg_nm z).name = "<init>") (hrt : pg_rt z = none) (hn : As.length + 1 = (pg_sg z).1)
    (hP : va_P D vwCl (am_wd dA ad S) H) (hD : va_D A (am_wd dA ad S)) (hS : va_S A s.heap H locs) (hIv : am_Iv L xs S) (hE : am_E A ad adV L xs s s.heap) (hls : ls.size = pg_mx y) (hcat : am_cat rest ≤ 8) (hdg : decode (pg_by y) pc = .ok (.invokespecial idx, 3)) (hR1 : d + 9 ≤ R.frames) (hR2 : 64 * (d + 9) ≤ R.locals)
    (hfc : cells + (am_n S' - am_n S) ≤ R.cells ∧ slots + (am_w S' - am_w S) ≤ R.slots)
    (kk : ∀ (ad' : Nat → Nat) (H1 : Heap) (locs1 : List Loc), am_ag (am_n S) ad ad' → va_P D vwCl (am_wd dA ad' S') H1 → va_D A (am_wd dA ad' S') → va_S A s.heap H1 locs1 → am_Iv L xs S' → (∀ x, v = some (.ref x) → 2000000 ≤ x) → W p l e R s m args below meth c H1 locs1 (cells + (am_n S' - am_n S)) (slots + (am_w S' - am_w S)) Q (F0 m (pc + 3) ls ((v.map (am_tr ad')).toList ++ rest.map (am_tr ad)))) :
    W p l e R s m args below meth c H locs cells slots Q (F0 m pc ls ((As.map (am_tr ad)).reverse ++ .ref (ad b) :: rest.map (am_tr ad))) := by
  obtain ⟨hx, hb, hml, hown, hts, hK, hNW, hA, hnm⟩ := hC
  have hmx := (am_cok_spec hck).2.2.1
  have hroom : ({ frames := d + 8, cells := am_n S' - am_n S, slots := am_w S' - am_w S, locals := 64 * (d + 8) } : Room).frames + 1 ≤ R.frames ∧ 8 + (pg_mx z + 11) + ({ frames := d + 8, cells := am_n S' - am_n S, slots := am_w S' - am_w S, locals := 64 * (d + 8) } : Room).locals ≤ R.locals := ⟨am_room1 hR1, am_room2 hmx hR2⟩
  obtain ⟨hz, his, -, n, hpn, hsg⟩ := am_cok_spec hck
  obtain ⟨hcls, hmh⟩ := pg_cls z hz
  have hsg : (pg_sg z).1 = n + 1 := hsg
  have hin : ∀ {w : Cond}, w ∈ lw_tbl → goodWord w = true → w.before args s = true := fun h1 h2 => hts _ (lw_gw_in h1 h2)
  have hpw : pg_ws z = .code (pg_nm z) (pg_by z) (pg_mx z) none :: lw_gw := by unfold pg_ws; rw [hrt]
  have hM1 := hM A D dA ad adV L xs hL31
  have cw : CallB R s args (am_on (pg_ow y)) idx (pg_nm z) (pg_by z) (pg_mx z) none (pg_ws z) { frames := d + 8, cells := am_n S' - am_n S, slots := am_w S' - am_w S, locals := 64 * (d + 8) } (am_n S' - am_n S) (am_w S' - am_w S) n ∧ (pg_nm z).name = "<init>" ∧ (Cond.instanceMethod (pg_nm z)).before args s = true := cwI n hts (pg_ws_in hz) (ws' := lw_gw) hpw rfl rfl (hin (pg_w_code hz) rfl) (hin (lk_m_ok _ hm) rfl) (hin (pg_w_in hz his) rfl) hni ⟨hmh.1, hmh.2, hpn⟩ hroom
  have hp : PreS s H (va_Pc ((.ref b :: As).map (am_tr ad)) (am_B A D dA ad adV L xs S)) (.ref (ad b) :: As.map (am_tr ad)) := ⟨am_B.blind, fun U hU hW => ⟨rfl, am_pre hK hNW hA hP hD hS hIv hE hU hW⟩⟩
  have hr := va_runI (p := p) (e := e) (below := below) (locs := locs) (cells := cells) (slots := slots) (meth := meth) (As := As.map (am_tr ad)) (rest := rest.map (am_tr ad)) (g := F0 m pc ls ((As.map (am_tr ad)).reverse ++ .ref (ad b) :: rest.map (am_tr ad))) ⟨hx, hb, hml, hown, hts⟩ hM1 cw hp rfl (by rw [List.length_map]; clear hz; omega) hls rfl (lv_room (by rw [am_cat_tr]; exact hcat)) hdg hfc
  refine am_callk hr hS (fun ad' t H1 locs1 ht hvm hg hB hS1 => ?_)
  obtain ⟨hP1, hD1, hI1, hr1⟩ := hB
  rw [ht] at hP1
  exact kk ad' H1 locs1 hg hP1 hD1 hS1 hI1 hr1
set_option maxHeartbeats 4000000 in
set_option maxRecDepth 10000 in
theorem am_cl4 (hC : am_Cx p s m args meth c A D dA y) (hM : am_M l d z (.ref b :: As) S v S') (hL31 : L < 2 ^ 31) (hm : (pg_ow y, idx, z, 11) ∈ lk_nm) (hck : am_cok z false = true) (hni : (pg_nm z).name = "<init>") (hrt : pg_rt z = none) (hn : As.length + 1 = (pg_sg z).1)
    (hP : va_P D vwCl (am_wd dA ad S) H) (hD : va_D A (am_wd dA ad S)) (hS : va_S A s.heap H locs) (hIv : am_Iv L xs S) (hE : am_E A ad adV L xs s s.heap) (hls : ls.size = pg_mx y) (hcat : am_cat rest ≤ 8) (hdg : decode (pg_by y) pc = .ok (.invokespecial idx, 3)) (hR1 : d + 9 ≤ R.frames) (hR2 : 64 * (d + 9) ≤ R.locals)
    (hfc : cells + (am_n S' - am_n S) ≤ R.cells ∧ slots + (am_w S' - am_w S) ≤ R.slots)
    (kk : ∀ (ad' : Nat → Nat) (H1 : Heap) (locs1 : List Loc), am_ag (am_n S) ad ad' → va_P D vwCl (am_wd dA ad' S') H1 → va_D A (am_wd dA ad' S') → va_S A s.heap H1 locs1 → am_Iv L xs S' → (∀ x, v = some (.ref x) → 2000000 ≤ x) → W p l e R s m args below meth c H1 locs1 (cells + (am_n S' - am_n S)) (slots + (am_w S' - am_w S)) Q (F0 m (pc + 3) ls ((v.map (am_tr ad')).toList ++ rest.map (am_tr ad)))) :
    W p l e R s m args below meth c H locs cells slots Q (F0 m pc ls ((As.map (am_tr ad)).reverse ++ .ref (ad b) :: rest.map (am_tr ad))) := by
  obtain ⟨hx, hb, hml, hown, hts, hK, hNW, hA, hnm⟩ := hC
  have hmx := (am_cok_spec hck).2.2.1
  have hroom : ({ frames := d + 8, cells := am_n S' - am_n S, slots := am_w S' - am_w S, locals := 64 * (d + 8) } : Room).frames + 1 ≤ R.frames ∧ 8 + (pg_mx z + 11) + ({ frames := d + 8, cells := am_n S' - am_n S, slots := am_w S' - am_w S, locals := 64 * (d + 8) } : Room).locals ≤ R.locals := ⟨am_room1 hR1, am_room2 hmx hR2⟩
  obtain ⟨hz, his, -, n, hpn, hsg⟩ := am_cok_spec hck
  obtain ⟨hcls, hmh⟩ := pg_cls z hz
  have hsg : (pg_sg z).1 = n + 1 := hsg
  have hin : ∀ {w : Cond}, w ∈ lw_tbl → goodWord w = true → w.before args s = true := fun h1 h2 => hts _ (lw_gw_in h1 h2)
  have hpw : pg_ws z = .code (pg_nm z) (pg_by z) (pg_mx z) none :: lw_gw := by unfold pg_ws; rw [hrt]
  have hnw : va_Nw (.methodLinkNest (am_on (pg_ow y)) idx (pg_nm z) (am_on 11)) s := hNW.1 (pg_ow y, idx, z, 11) hm
  have hM1 := hM A D dA ad adV L xs hL31
  have cw : va_CN R s args (am_on (pg_ow y)) idx (pg_nm z) (am_on 11) (pg_by z) (pg_mx z) none (pg_ws z) { frames := d + 8, cells := am_n S' - am_n S, slots := am_w S' - am_w S, locals := 64 * (d + 8) } (am_n S' - am_n S) (am_w S' - am_w S) n ∧ (pg_nm z).name = "<init>" ∧ (Cond.instanceMethod (pg_nm z)).before args s = true := ⟨va_cnB n hts (pg_ws_in hz) (ws' := lw_gw) hpw rfl rfl hnw (hin (pg_w_code hz) rfl) ⟨hmh.1, hmh.2, hpn⟩ hroom, hni, hin (pg_w_in hz his) rfl⟩
  have hp : PreS s H (va_Pc ((.ref b :: As).map (am_tr ad)) (am_B A D dA ad adV L xs S)) (.ref (ad b) :: As.map (am_tr ad)) := ⟨am_B.blind, fun U hU hW => ⟨rfl, am_pre hK hNW hA hP hD hS hIv hE hU hW⟩⟩
  have hr := va_runIN (p := p) (e := e) (below := below) (locs := locs) (cells := cells) (slots := slots) (meth := meth) (As := As.map (am_tr ad)) (rest := rest.map (am_tr ad)) (g := F0 m pc ls ((As.map (am_tr ad)).reverse ++ .ref (ad b) :: rest.map (am_tr ad))) ⟨hx, hb, hml, hown, hts⟩ hM1 cw hp rfl (by rw [List.length_map]; clear hz; omega) hls rfl (lv_room (by rw [am_cat_tr]; exact hcat)) hdg hfc
  refine am_callk hr hS (fun ad' t H1 locs1 ht hvm hg hB hS1 => ?_)
  obtain ⟨hP1, hD1, hI1, hr1⟩ := hB
  rw [ht] at hP1
  exact kk ad' H1 locs1 hg hP1 hD1 hS1 hI1 hr1
/-- a call that only reads, and answers an int -/
theorem am_callp {H0 : Heap} {st0 rst : List Value} {a : Array Value} {x : Int32} (hr : va_Run p l e R s m args below meth c H locs cells slots 0 0 (F0 m pc ls st0) rst (fun st oc t => oc = .returned (some (.int x)) ∧ t.heap = st.heap) A) (hS : va_S A H0 H locs)
    (kk : ∀ (locs1 : List Loc), va_S A H0 H locs1 → W p l e R s m args below meth c H locs1 cells slots Q (F0 m (pc + 3) ls (.int x :: rst))) : W p l e R s m args below meth c H locs cells slots Q (F0 m pc ls st0) := by
  intro T hT X
  obtain ⟨v1, st₀, t, T', L1, h0, X', hL, e1, e2, ⟨hv, hh⟩, st⟩ := hr T hT X
  cases hv
  obtain ⟨t2, a1, b1⟩ := kk (locs ++ L1) ⟨hS.1, hS.2.1, fun q hq => by
      rcases List.mem_append.mp hq with h | h
      · exact hS.2.2 q h
      · exact hL q h⟩ T' (by rw [e1, hh, h0]) X'
  exact ⟨t2, st t2 a1, b1⟩
end CL
end
section
/-! ===== length() and charAt() of the texts ===== -/
def am_nst (c n d : String) : MethodName := ⟨c, n, d⟩
set_option maxRecDepth 100000 in
theorem am_stw : ∀ w ∈ [Cond.fieldLink "java/lang/String" 9 "java/lang/String" "value" "[B", Cond.fieldLink "java/lang/String" 15 "java/lang/String" "coder" "B", Cond.fieldLink "java/lang/String" 38 "java/lang/String" "COMPACT_STRINGS" "Z",
    Cond.methodLink "java/lang/String" 335 ⟨"java/lang/String", "coder", "()B"⟩, Cond.instanceMethod ⟨"java/lang/String", "coder", "()B"⟩, Cond.selects "java/lang/String" ⟨"java/lang/String", "coder", "()B"⟩ ⟨"java/lang/String", "coder", "()B"⟩, Cond.code ⟨"java/lang/String", "coder", "()B"⟩ prog_17_method_152_code 1 (some .byte),
    Cond.methodLink "java/lang/String" 492 ⟨"java/lang/String", "isLatin1", "()Z"⟩, Cond.instanceMethod ⟨"java/lang/String", "isLatin1", "()Z"⟩, Cond.selects "java/lang/String" ⟨"java/lang/String", "isLatin1", "()Z"⟩ ⟨"java/lang/String", "isLatin1", "()Z"⟩, Cond.code ⟨"java/lang/String", "isLatin1", "()Z"⟩ prog_17_method_154_code 1 (some .boolean),
    Cond.methodLink "java/lang/String" 495 ⟨"java/lang/StringLatin1", "charAt", "([BI)C"⟩, Cond.static ⟨"java/lang/StringLatin1", "charAt", "([BI)C"⟩, Cond.code ⟨"java/lang/StringLatin1", "charAt", "([BI)C"⟩ prog_18_method_2_code 2 (some .char),
    Cond.methodLink "java/lang/StringLatin1" 9 ⟨"java/lang/String", "checkIndex", "(II)V"⟩, Cond.static ⟨"java/lang/String", "checkIndex", "(II)V"⟩, Cond.code ⟨"java/lang/String", "checkIndex", "(II)V"⟩ prog_17_method_155_code 2 none,
    Cond.fieldLink "java/lang/String" 1053 "jdk/internal/util/Preconditions" "SIOOBE_FORMATTER" "Ljava/util/function/BiFunction;", Cond.methodLink "java/lang/String" 1059 ⟨"jdk/internal/util/Preconditions", "checkIndex", "(IILjava/util/function/BiFunction;)I"⟩, Cond.static ⟨"jdk/internal/util/Preconditions", "checkIndex", "(IILjava/util/function/BiFunction;)I"⟩, Cond.code ⟨"jdk/internal/util/Preconditions", "checkIndex", "(IILjava/util/function/BiFunction;)I"⟩ prog_21_method_11_code 3 (some .int),
    Cond.initialized "java/lang/String", Cond.initialized "java/lang/StringLatin1", Cond.initialized "jdk/internal/util/Preconditions"], w ∈ lw_tbl :=
  lk_sub [1826, 1827, 748, 744, 745, 746, 747, 754, 755, 756, 757, 758, 759, 760, 761, 762, 763, 764, 766, 767, 768, 113, 114, 115] rfl
theorem am_stg {w : Cond} {n : Nat} (h : lw_tbl.length = lw_tbl.length) (hw : w ∈ lw_tbl) (hg : goodWord w = true) : w ∈ lw_gw := lw_gw_in hw hg
theorem am_gV {own C : String} {idx : Nat} {y : MethodName} {bytes : ByteArray} {mx : Nat} {rt : Option FieldType} (h1 : Cond.methodLink own idx y ∈ lw_tbl) (h2 : Cond.instanceMethod y ∈ lw_tbl) (h3 : Cond.selects C y y ∈ lw_tbl) (h4 : Cond.initialized C ∈ lw_tbl) (h5 : Cond.code y bytes mx rt ∈ lw_tbl) : GoodIn lw_gw (wsV own idx C y (.code y bytes mx rt :: lw_gw)) := by
  intro w hw
  unfold wsV at hw
  simp only [List.cons_append, List.nil_append, List.mem_cons] at hw
  rcases hw with rfl | rfl | rfl | rfl | rfl | hw
  · exact ⟨lw_gw_in h1 rfl, Or.inl rfl⟩
  · exact ⟨lw_gw_in h2 rfl, Or.inl rfl⟩
  · exact ⟨lw_gw_in h3 rfl, Or.inl rfl⟩
  · exact ⟨lw_gw_in h4 rfl, Or.inl rfl⟩
  · exact ⟨lw_gw_in h5 rfl, Or.inl rfl⟩
  · exact ⟨hw, good_of_word (List.mem_filter.mp hw).2⟩
theorem am_gS {own : String} {idx : Nat} {y : MethodName} {bytes : ByteArray} {mx : Nat} {rt : Option FieldType} (h1 : Cond.methodLink own idx y ∈ lw_tbl) (h2 : Cond.static y ∈ lw_tbl) (h4 : Cond.initialized y.cls ∈ lw_tbl) (h5 : Cond.code y bytes mx rt ∈ lw_tbl) : GoodIn lw_gw (va_wsS own idx y (.code y bytes mx rt :: lw_gw)) := by
  intro w hw
  unfold va_wsS at hw
  simp only [List.cons_append, List.nil_append, List.mem_cons] at hw
  rcases hw with rfl | rfl | rfl | rfl | hw
  · exact ⟨lw_gw_in h1 rfl, Or.inl rfl⟩
  · exact ⟨lw_gw_in h2 rfl, Or.inl rfl⟩
  · exact ⟨lw_gw_in h4 rfl, Or.inl rfl⟩
  · exact ⟨lw_gw_in h5 rfl, Or.inl rfl⟩
  · exact ⟨hw, good_of_word (List.mem_filter.mp hw).2⟩
theorem am_stp_in (k : Nat) {w : Cond} (h : [Cond.fieldLink "java/lang/String" 9 "java/lang/String" "value" "[B", Cond.fieldLink "java/lang/String" 15 "java/lang/String" "coder" "B", Cond.fieldLink "java/lang/String" 38 "java/lang/String" "COMPACT_STRINGS" "Z",
    Cond.methodLink "java/lang/String" 335 ⟨"java/lang/String", "coder", "()B"⟩, Cond.instanceMethod ⟨"java/lang/String", "coder", "()B"⟩, Cond.selects "java/lang/String" ⟨"java/lang/String", "coder", "()B"⟩ ⟨"java/lang/String", "coder", "()B"⟩, Cond.code ⟨"java/lang/String", "coder", "()B"⟩ prog_17_method_152_code 1 (some .byte),
    Cond.methodLink "java/lang/String" 492 ⟨"java/lang/String", "isLatin1", "()Z"⟩, Cond.instanceMethod ⟨"java/lang/String", "isLatin1", "()Z"⟩, Cond.selects "java/lang/String" ⟨"java/lang/String", "isLatin1", "()Z"⟩ ⟨"java/lang/String", "isLatin1", "()Z"⟩, Cond.code ⟨"java/lang/String", "isLatin1", "()Z"⟩ prog_17_method_154_code 1 (some .boolean),
    Cond.methodLink "java/lang/String" 495 ⟨"java/lang/StringLatin1", "charAt", "([BI)C"⟩, Cond.static ⟨"java/lang/StringLatin1", "charAt", "([BI)C"⟩, Cond.code ⟨"java/lang/StringLatin1", "charAt", "([BI)C"⟩ prog_18_method_2_code 2 (some .char),
    Cond.methodLink "java/lang/StringLatin1" 9 ⟨"java/lang/String", "checkIndex", "(II)V"⟩, Cond.static ⟨"java/lang/String", "checkIndex", "(II)V"⟩, Cond.code ⟨"java/lang/String", "checkIndex", "(II)V"⟩ prog_17_method_155_code 2 none,
    Cond.fieldLink "java/lang/String" 1053 "jdk/internal/util/Preconditions" "SIOOBE_FORMATTER" "Ljava/util/function/BiFunction;", Cond.methodLink "java/lang/String" 1059 ⟨"jdk/internal/util/Preconditions", "checkIndex", "(IILjava/util/function/BiFunction;)I"⟩, Cond.static ⟨"jdk/internal/util/Preconditions", "checkIndex", "(IILjava/util/function/BiFunction;)I"⟩, Cond.code ⟨"jdk/internal/util/Preconditions", "checkIndex", "(IILjava/util/function/BiFunction;)I"⟩ prog_21_method_11_code 3 (some .int),
    Cond.initialized "java/lang/String", Cond.initialized "java/lang/StringLatin1", Cond.initialized "jdk/internal/util/Preconditions"][k]? = some w) : w ∈ lw_tbl := am_stw _ (List.mem_of_getElem? h)
section STR
variable {l : Launch} {A : Nat → Prop} {ad adV : Nat → Nat} {L : Nat} {xs : Nat → Int32} {i : Nat}
def am_rd (v : Option Value) : Array Value → State → Outcome → State → Prop := fun _ st oc t => oc = .returned v ∧ t.heap = st.heap
theorem am_rpre {p : Program} {e : Env} {ws : List Cond} {rm : Room} {y : MethodName} {cc : ByteArray} {mx : Nat} {ret : Option FieldType} {s : State} {m : MethodId} {args : Array Value} {below : List Frame} {meth : Method} {c : Code} {s₁ : State} (B : BodyLoose p l y (headSpec (Cond.code y cc mx ret :: ws) rm) cc mx ret e s m args below meth c s₁) : ∀ w ∈ ws, w.before args s = true := fun w hw => atoms_spec (ws := Cond.code y cc mx ret :: ws) B.pre w (List.mem_cons_of_mem _ hw)
/-- a call that only reads, and answers nothing -/
theorem am_callpv {p : Program} {e : Env} {R : Room} {s : State} {m : MethodId} {args : Array Value} {below : List Frame} {meth : Method} {c : Code} {H : Heap} {locs : List Loc} {cells slots : Nat} {Q : State → Prop} {pc : Nat} {ls : Array Slot} {H0 : Heap} {st0 rst : List Value} {a : Array Value} (hr : va_Run p l e R s m args below meth c H locs cells slots 0 0 (F0 m pc ls st0) rst (am_rd none a) A) (hS : va_S A H0 H locs)
    (kk : ∀ (locs1 : List Loc), va_S A H0 H locs1 → W p l e R s m args below meth c H locs1 cells slots Q (F0 m (pc + 3) ls rst)) : W p l e R s m args below meth c H locs cells slots Q (F0 m pc ls st0) := by
  intro T hT X
  obtain ⟨v1, st₀, t, T', L1, h0, X', hL, e1, e2, ⟨hv, hh⟩, st⟩ := hr T hT X
  cases hv
  obtain ⟨t2, a1, b1⟩ := kk (locs ++ L1) ⟨hS.1, hS.2.1, fun q hq => by
      rcases List.mem_append.mp hq with h | h
      · exact hS.2.2 q h
      · exact hL q h⟩ T' (by rw [e1, hh, h0]) X'
  exact ⟨t2, st t2 a1, b1⟩
set_option maxHeartbeats 4000000 in
set_option maxRecDepth 100000 in
theorem am_coder (hi : i < 12) : Met l ⟨"java/lang/String", "coder", "()B"⟩ (.code ⟨"java/lang/String", "coder", "()B"⟩ prog_17_method_152_code 1 (some .byte) :: lw_gw) { frames := 0, cells := 0, slots := 0, locals := 0 } (va_Pc [.ref (ad (4000000 + i))] (fun U => am_E A ad adV L xs U U.heap)) (am_rd (some (.int 0))) 0 0 A := by
  refine Met.ofW (cc := prog_17_method_152_code) (maxL := 1) (ret := some .byte) (by decide) rfl ?_
  intro p e s m args below meth c s₁ B hml hv
  obtain ⟨rfl, hE⟩ := hv
  have hx := B.exec
  have hb := B.bytes
  have hr := B.returns
  have hts := am_rpre B
  have hown : s.vm.findClass "java/lang/String" = some m.cls := findClass_of_methodNamed B.named
  have hlocks := B.notSynchronized
  have hS : va_S A s.heap s.heap [] := va_S.rf
  have hl := lv_entry ([.ref (ad (4000000 + i))]) (n := 1) (Nat.le_of_ble_eq_true rfl)
  rw [lg_entry_eq]
  generalize (lg_sl ([.ref (ad (4000000 + i))]) ++ List.replicate (1 - (lg_sl ([.ref (ad (4000000 + i))])).length) Slot.unset).toArray = ls at hl ⊢
  have hl : lv_has ls 1 [(0, .ref (ad (4000000 + i)))] := hl
  refine va_gets hx hb hE.2.2.2.2.1 hS hown (hts _ (lw_gw_in (am_stp_in 2 rfl) rfl)) (fun _ h9 => h9) (by decide +kernel) ?_
  refine lv_if_eq (off := 10) (tgt := 13) hx hb (by decide +kernel) rfl (fun h => absurd h (by decide)) (fun _ => ?_)
  refine lv_aload_n (k := 0) hx hb (by decide +kernel) rfl (lv_at hl 0 rfl) ?_
  refine vk_getf hx hb (hE.2.2.1.1 i hi).2.1 hS hown (hts _ (lw_gw_in (am_stp_in 1 rfl) rfl)) (fun _ h9 => h9) (by decide +kernel) ?_
  refine lv_goto (off := 4) (tgt := 14) hx hb (by decide +kernel) rfl ?_
  exact W.zret hx hb hr (by decide) (fun t ht hW => ⟨rfl, ht⟩) hS.2.2 (by decide +kernel)
set_option maxHeartbeats 4000000 in
set_option maxRecDepth 100000 in
theorem am_isLat (hi : i < 12) : Met l ⟨"java/lang/String", "isLatin1", "()Z"⟩ (.code ⟨"java/lang/String", "isLatin1", "()Z"⟩ prog_17_method_154_code 1 (some .boolean) :: lw_gw) { frames := 0, cells := 0, slots := 0, locals := 0 } (va_Pc [.ref (ad (4000000 + i))] (fun U => am_E A ad adV L xs U U.heap)) (am_rd (some (.int 1))) 0 0 A := by
  refine Met.ofW (cc := prog_17_method_154_code) (maxL := 1) (ret := some .boolean) (by decide) rfl ?_
  intro p e s m args below meth c s₁ B hml hv
  obtain ⟨rfl, hE⟩ := hv
  have hx := B.exec
  have hb := B.bytes
  have hr := B.returns
  have hts := am_rpre B
  have hown : s.vm.findClass "java/lang/String" = some m.cls := findClass_of_methodNamed B.named
  have hlocks := B.notSynchronized
  have hS : va_S A s.heap s.heap [] := va_S.rf
  have hl := lv_entry ([.ref (ad (4000000 + i))]) (n := 1) (Nat.le_of_ble_eq_true rfl)
  rw [lg_entry_eq]
  generalize (lg_sl ([.ref (ad (4000000 + i))]) ++ List.replicate (1 - (lg_sl ([.ref (ad (4000000 + i))])).length) Slot.unset).toArray = ls at hl ⊢
  have hl : lv_has ls 1 [(0, .ref (ad (4000000 + i)))] := hl
  refine va_gets hx hb hE.2.2.2.2.1 hS hown (hts _ (lw_gw_in (am_stp_in 2 rfl) rfl)) (fun _ h9 => h9) (by decide +kernel) ?_
  refine lv_if_eq (off := 14) (tgt := 17) hx hb (by decide +kernel) rfl (fun h => absurd h (by decide)) (fun _ => ?_)
  refine lv_aload_n (k := 0) hx hb (by decide +kernel) rfl (lv_at hl 0 rfl) ?_
  refine vk_getf hx hb (hE.2.2.1.1 i hi).2.1 hS hown (hts _ (lw_gw_in (am_stp_in 1 rfl) rfl)) (fun _ h9 => h9) (by decide +kernel) ?_
  refine lv_if_ne (off := 7) (tgt := 17) hx hb (by decide +kernel) rfl (fun h => absurd rfl h) (fun _ => ?_)
  refine lv_iconst (n := 1) (v := 1) hx hb (by decide +kernel) (by decide) ?_
  refine lv_goto (off := 4) (tgt := 18) hx hb (by decide +kernel) rfl ?_
  exact W.zret hx hb hr (by decide) (fun t ht hW => ⟨rfl, ht⟩) hS.2.2 (by decide +kernel)
set_option maxHeartbeats 4000000 in
set_option maxRecDepth 100000 in
/-- length() -/
theorem am_lengthM (hi : i < 12) : Met l ⟨"java/lang/String", "length", "()I"⟩ am_wsl { frames := 2, cells := 0, slots := 0, locals := 64 } (va_Pc [.ref (ad (4000000 + i))] (fun U => am_E A ad adV L xs U U.heap)) (am_rd (some (.int (nI (am_sl.getD i 0))))) 0 0 A := by
  refine Met.ofW (cc := prog_17_method_54_code) (maxL := 1) (ret := some .int) (by decide) rfl ?_
  intro p e s m args below meth c s₁ B hml hv
  obtain ⟨rfl, hE⟩ := hv
  have hx := B.exec
  have hb := B.bytes
  have hr := B.returns
  have hts := am_rpre B
  have hown : s.vm.findClass "java/lang/String" = some m.cls := findClass_of_methodNamed B.named
  have hlocks := B.notSynchronized
  have hS : va_S A s.heap s.heap [] := va_S.rf
  have hl := lv_entry ([.ref (ad (4000000 + i))]) (n := 1) (Nat.le_of_ble_eq_true rfl)
  rw [lg_entry_eq]
  generalize (lg_sl ([.ref (ad (4000000 + i))]) ++ List.replicate (1 - (lg_sl ([.ref (ad (4000000 + i))])).length) Slot.unset).toArray = ls at hl ⊢
  have hl : lv_has ls 1 [(0, .ref (ad (4000000 + i)))] := hl
  refine lv_aload_n (k := 0) hx hb (by decide +kernel) rfl (lv_at hl 0 rfl) ?_
  refine vk_getf hx hb (hE.2.2.1.1 i hi).2.2.1 hS hown (hts _ (lw_gw_in (am_stp_in 0 rfl) rfl)) (fun _ h9 => h9) (by decide +kernel) ?_
  refine va_tlen hx hb (hE.2.2.1.1 i hi).2.2.2 hS (v := nI (am_sl.getD i 0)) rfl (by decide +kernel) ?_
  refine lv_aload_n (k := 0) hx hb (by decide +kernel) rfl (lv_at hl 0 rfl) ?_
  refine am_callp (a := #[]) (va_runV (As := []) (rest := [.int (nI (am_sl.getD i 0))]) (C := "java/lang/String") ⟨hx, hb, hml, hown, hts⟩ (am_coder (A := A) (ad := ad) (adV := adV) (L := L) (xs := xs) hi) (cwV 0 hts (am_gV (am_stp_in 3 rfl) (am_stp_in 4 rfl) (am_stp_in 5 rfl) (am_stp_in 21 rfl) (am_stp_in 6 rfl)) rfl rfl rfl ⟨rfl, by decide, by decide, by decide +kernel⟩ ⟨by show 0 + 1 ≤ 2; omega, by show 8 + (1 + 11) + 0 ≤ 64; omega⟩) ⟨am_Eb, vk_recv hE.2.2.1 hi hS, fun U hU hW => ⟨rfl, by show am_E A ad adV L xs U U.heap; rw [hU]; exact hE.warm hW⟩⟩ rfl rfl hl.1 rfl (lv_room (by show 1 + 0 ≤ 8; omega)) (show decode prog_17_method_54_code 6 = .ok (.invokevirtual 335, 3) by decide +kernel) ⟨Nat.zero_le _, Nat.zero_le _⟩) hS (fun locs1 hS1 => ?_)
  refine lv_ishr hx hb (by decide +kernel) ?_
  refine W.eq (g2 := F0 m 10 ls [.int (nI (am_sl.getD i 0))]) ?_ ?_
  · have h : nI (am_sl.getD i 0) >>> ((0 : Int32) &&& 31) = nI (am_sl.getD i 0) := by
      have e0 : (0 : Int32) &&& 31 = 0 := by decide
      rw [e0]
      generalize nI (am_sl.getD i 0) = z
      apply Int32.toBitVec_inj.mp
      simp
    rw [h]
  exact W.iret hx hb hr (fun t ht hW => ⟨rfl, ht⟩) hS1.2.2 (by decide +kernel)
theorem am_nIlt {k n : Nat} (hk : k < n) (hn : n < 2 ^ 31) : nI k < nI n ∧ ¬ nI k < 0 := by
  constructor
  · rw [Int32.lt_iff_toInt_lt, nI_toInt (by omega), nI_toInt hn]; omega
  · rw [Int32.lt_iff_toInt_lt, nI_toInt (by omega), Int32.toInt_zero]; omega
set_option maxHeartbeats 4000000 in
set_option maxRecDepth 100000 in
theorem am_pchk (v3 : Value) (hv3 : v3 = .null ∨ ∃ t, v3 = .ref t) {k n : Nat} (hk : k < n) (hn : n < 2 ^ 31) : Met l ⟨"jdk/internal/util/Preconditions", "checkIndex", "(IILjava/util/function/BiFunction;)I"⟩ (.code ⟨"jdk/internal/util/Preconditions", "checkIndex", "(IILjava/util/function/BiFunction;)I"⟩ prog_21_method_11_code 3 (some .int) :: lw_gw) { frames := 0, cells := 0, slots := 0, locals := 0 } (va_Pc [.int (nI k), .int (nI n), v3] (fun U => am_E A ad adV L xs U U.heap)) (am_rd (some (.int (nI k)))) 0 0 A := by
  refine Met.ofW (cc := prog_21_method_11_code) (maxL := 3) (ret := some .int) (by decide) rfl ?_
  intro p e s m args below meth c s₁ B hml hv
  obtain ⟨rfl, hE⟩ := hv
  have hx := B.exec
  have hb := B.bytes
  have hr := B.returns
  have hlocks := B.notSynchronized
  have hS : va_S A s.heap s.heap [] := va_S.rf
  have hsl : (lg_sl [.int (nI k), .int (nI n), v3]).length ≤ 3 := by rcases hv3 with rfl | ⟨t, rfl⟩ <;> exact Nat.le_refl _
  have hl := lv_entry ([.int (nI k), .int (nI n), v3]) (n := 3) hsl
  rw [lg_entry_eq]
  generalize (lg_sl ([.int (nI k), .int (nI n), v3]) ++ List.replicate (3 - (lg_sl ([.int (nI k), .int (nI n), v3])).length) Slot.unset).toArray = ls at hl ⊢
  have h0 : ls[0]? = some (.val (.int (nI k))) := lv_at hl 0 rfl
  have h1 : ls[1]? = some (.val (.int (nI n))) := lv_at hl 1 rfl
  have hlt := am_nIlt hk hn
  refine lv_iload_n (k := 0) hx hb (by decide +kernel) rfl h0 ?_
  refine lv_if_lt (off := 8) (tgt := 9) hx hb (by decide +kernel) rfl (fun h => absurd h hlt.2) (fun _ => ?_)
  refine lv_iload_n (k := 0) hx hb (by decide +kernel) rfl h0 ?_
  refine lv_iload_n (k := 1) hx hb (by decide +kernel) rfl h1 ?_
  refine lv_icmp_lt (off := 10) (tgt := 16) hx hb (by decide +kernel) rfl (fun _ => ?_) (fun h => absurd hlt.1 h)
  refine lv_iload_n (k := 0) hx hb (by decide +kernel) rfl h0 ?_
  exact W.iret hx hb hr (fun t ht hW => ⟨rfl, ht⟩) hS.2.2 (by decide +kernel)
set_option maxHeartbeats 4000000 in
set_option maxRecDepth 100000 in
theorem am_schk {k n : Nat} (hk : k < n) (hn : n < 2 ^ 31) : Met l ⟨"java/lang/String", "checkIndex", "(II)V"⟩ (.code ⟨"java/lang/String", "checkIndex", "(II)V"⟩ prog_17_method_155_code 2 none :: lw_gw) { frames := 1, cells := 0, slots := 0, locals := 32 } (va_Pc [.int (nI k), .int (nI n)] (fun U => am_E A ad adV L xs U U.heap)) (am_rd none) 0 0 A := by
  refine Met.ofW (cc := prog_17_method_155_code) (maxL := 2) (ret := none) (by decide) rfl ?_
  intro p e s m args below meth c s₁ B hml hv
  obtain ⟨rfl, hE⟩ := hv
  have hx := B.exec
  have hb := B.bytes
  have hr := B.returns
  have hts := am_rpre B
  have hown : s.vm.findClass "java/lang/String" = some m.cls := findClass_of_methodNamed B.named
  have hlocks := B.notSynchronized
  have hS : va_S A s.heap s.heap [] := va_S.rf
  have hl := lv_entry ([.int (nI k), .int (nI n)]) (n := 2) (Nat.le_of_ble_eq_true rfl)
  rw [lg_entry_eq]
  generalize (lg_sl ([.int (nI k), .int (nI n)]) ++ List.replicate (2 - (lg_sl ([.int (nI k), .int (nI n)])).length) Slot.unset).toArray = ls at hl ⊢
  have hl : lv_has ls 2 [(0, .int (nI k)), (1, .int (nI n))] := hl
  refine lv_iload_n (k := 0) hx hb (by decide +kernel) rfl (lv_at hl 0 rfl) ?_
  refine lv_iload_n (k := 1) hx hb (by decide +kernel) rfl (lv_at hl 1 rfl) ?_
  obtain ⟨v3, hv3, hZ⟩ : ∃ v3 : Value, (v3 = .null ∨ ∃ t, v3 = .ref t) ∧ va_Z "jdk/internal/util/Preconditions" "SIOOBE_FORMATTER" "Ljava/util/function/BiFunction;" v3 A s s.heap := by
    rcases hE.2.2.2.2.2 with h | ⟨t, h⟩
    · exact ⟨_, Or.inl rfl, h⟩
    · exact ⟨_, Or.inr ⟨t, rfl⟩, h⟩
  refine va_gets hx hb hZ hS hown (hts _ (lw_gw_in (am_stp_in 17 rfl) rfl)) (fun _ h9 => h9) (by decide +kernel) ?_
  refine am_callp (a := #[]) (va_runS (As := [.int (nI k), .int (nI n), v3]) (rest := []) ⟨hx, hb, hml, hown, hts⟩ (am_pchk (A := A) (ad := ad) (adV := adV) (L := L) (xs := xs) v3 hv3 hk hn) (va_cwS 3 hts (am_gS (am_stp_in 18 rfl) (am_stp_in 19 rfl) (am_stp_in 23 rfl) (am_stp_in 20 rfl)) rfl rfl rfl ⟨by decide, by decide, by decide +kernel⟩ ⟨by show 0 + 1 ≤ 1; omega, by show 8 + (3 + 11) + 0 ≤ 32; omega⟩) ⟨am_Eb, fun U hU hW => ⟨rfl, by show am_E A ad adV L xs U U.heap; rw [hU]; exact hE.warm hW⟩⟩ rfl rfl hl.1 rfl (lv_room (by show 0 ≤ 8; omega)) (show decode prog_17_method_155_code 5 = .ok (.invokestatic 1059, 3) by decide +kernel) ⟨Nat.zero_le _, Nat.zero_le _⟩) hS (fun locs1 hS1 => ?_)
  refine lv_pop hx hb (by decide +kernel) rfl ?_
  exact W.vret hx hb hr (fun t ht hW => ⟨rfl, ht⟩) hS1.2.2 (by decide +kernel)
theorem am_btk : ∀ i, i < 12 → am_sl.getD i 0 = (am_bt.getD i []).length ∧ ∀ b ∈ am_bt.getD i [], ((b &&& 255).toUInt32 % 65536).toInt32 = b := by decide +kernel
theorem am_btb {i k : Nat} (hi : i < 12) (hk : k < am_sl.getD i 0) : (((am_bt.getD i []).getD k 0 &&& 255).toUInt32 % 65536).toInt32 = (am_bt.getD i []).getD k 0 := by
  obtain ⟨h1, h2⟩ := am_btk i hi
  rw [h1] at hk
  rw [List.getD_eq_getElem?_getD, List.getElem?_eq_getElem hk]
  exact h2 _ (List.getElem_mem hk)
theorem am_btn {i k : Nat} (hi : i < 12) (hk : k < am_sl.getD i 0) : narrow .char (.int ((am_bt.getD i []).getD k 0)) = .int ((am_bt.getD i []).getD k 0) := by
  have h3 : ∀ i, i < 12 → ∀ b ∈ am_bt.getD i [], narrow .char (.int b) = .int b := by decide +kernel
  obtain ⟨h1, h2⟩ := am_btk i hi
  rw [h1] at hk
  rw [List.getD_eq_getElem?_getD, List.getElem?_eq_getElem hk]
  exact h3 i hi _ (List.getElem_mem hk)
set_option maxHeartbeats 4000000 in
set_option maxRecDepth 100000 in
theorem am_lchar (hi : i < 12) {k : Nat} (hk : k < am_sl.getD i 0) : Met l ⟨"java/lang/StringLatin1", "charAt", "([BI)C"⟩ (.code ⟨"java/lang/StringLatin1", "charAt", "([BI)C"⟩ prog_18_method_2_code 2 (some .char) :: lw_gw) { frames := 2, cells := 0, slots := 0, locals := 64 } (va_Pc [.ref (adV i), .int (nI k)] (fun U => am_E A ad adV L xs U U.heap)) (am_rd (some (.int ((am_bt.getD i []).getD k 0)))) 0 0 A := by
  refine Met.ofW (cc := prog_18_method_2_code) (maxL := 2) (ret := some .char) (by decide) rfl ?_
  intro p e s m args below meth c s₁ B hml hv
  obtain ⟨rfl, hE⟩ := hv
  have hx := B.exec
  have hb := B.bytes
  have hr := B.returns
  have hts := am_rpre B
  have hown : s.vm.findClass "java/lang/StringLatin1" = some m.cls := findClass_of_methodNamed B.named
  have hlocks := B.notSynchronized
  have hS : va_S A s.heap s.heap [] := va_S.rf
  have hl := lv_entry ([.ref (adV i), .int (nI k)]) (n := 2) (Nat.le_of_ble_eq_true rfl)
  rw [lg_entry_eq]
  generalize (lg_sl ([.ref (adV i), .int (nI k)]) ++ List.replicate (2 - (lg_sl ([.ref (adV i), .int (nI k)])).length) Slot.unset).toArray = ls at hl ⊢
  have hl : lv_has ls 2 [(0, .ref (adV i)), (1, .int (nI k))] := hl
  have hn := am_sl_lt i
  have hT := (hE.2.2.1.1 i hi).2.2.2
  refine lv_iload_n (k := 1) hx hb (by decide +kernel) rfl (lv_at hl 1 rfl) ?_
  refine lv_aload_n (k := 0) hx hb (by decide +kernel) rfl (lv_at hl 0 rfl) ?_
  refine va_tlen hx hb hT hS (v := nI (am_sl.getD i 0)) rfl (by decide +kernel) ?_
  refine am_callpv (va_runS (As := [.int (nI k), .int (nI (am_sl.getD i 0))]) (rest := []) ⟨hx, hb, hml, hown, hts⟩ (am_schk (A := A) (ad := ad) (adV := adV) (L := L) (xs := xs) hk hn) (va_cwS 2 hts (am_gS (am_stp_in 14 rfl) (am_stp_in 15 rfl) (am_stp_in 21 rfl) (am_stp_in 16 rfl)) rfl rfl rfl ⟨by decide, by decide, by decide +kernel⟩ ⟨by show 1 + 1 ≤ 2; omega, by show 8 + (2 + 11) + 32 ≤ 64; omega⟩) ⟨am_Eb, fun U hU hW => ⟨rfl, by show am_E A ad adV L xs U U.heap; rw [hU]; exact hE.warm hW⟩⟩ rfl rfl hl.1 rfl (lv_room (by show 0 ≤ 8; omega)) (show decode prog_18_method_2_code 3 = .ok (.invokestatic 9, 3) by decide +kernel) ⟨Nat.zero_le _, Nat.zero_le _⟩) hS (fun locs1 hS1 => ?_)
  refine lv_aload_n (k := 0) hx hb (by decide +kernel) rfl (lv_at hl 0 rfl) ?_
  refine lv_iload_n (k := 1) hx hb (by decide +kernel) rfl (lv_at hl 1 rfl) ?_
  have hkk : (nI k).toNatClampNeg = k := by
    show (nI k).toInt.toNat = k
    rw [nI_toInt (by omega)]
    rfl
  have hin : vp_in (nI k) (am_sl.getD i 0) := by
    intro q
    rcases q with q | q
    · exact (am_nIlt hk hn).2 q
    · omega
  refine va_tb hx hb hT hS1 hin (v := .int ((am_bt.getD i []).getD k 0)) (by rw [hkk]) (by decide +kernel) ?_
  refine lv_sipush (n := 255) (v := 255) hx hb (by decide +kernel) (by decide) ?_
  refine lv_iand hx hb (by decide +kernel) ?_
  refine lv_i2c hx hb (by decide +kernel) (am_btb hi hk) ?_
  exact W.zret hx hb hr (am_btn hi hk) (fun t ht hW => ⟨rfl, ht⟩) hS1.2.2 (by decide +kernel)
set_option maxHeartbeats 4000000 in
set_option maxRecDepth 100000 in
theorem am_charM (hi : i < 12) {k : Nat} (hk : k < am_sl.getD i 0) : Met l ⟨"java/lang/String", "charAt", "(I)C"⟩ am_wsc { frames := 6, cells := 0, slots := 0, locals := 256 } (va_Pc [.ref (ad (4000000 + i)), .int (nI k)] (fun U => am_E A ad adV L xs U U.heap)) (am_rd (some (.int ((am_bt.getD i []).getD k 0)))) 0 0 A := by
  refine Met.ofW (cc := prog_17_method_56_code) (maxL := 2) (ret := some .char) (by decide) rfl ?_
  intro p e s m args below meth c s₁ B hml hv
  obtain ⟨rfl, hE⟩ := hv
  have hx := B.exec
  have hb := B.bytes
  have hr := B.returns
  have hts := am_rpre B
  have hown : s.vm.findClass "java/lang/String" = some m.cls := findClass_of_methodNamed B.named
  have hlocks := B.notSynchronized
  have hS : va_S A s.heap s.heap [] := va_S.rf
  have hl := lv_entry ([.ref (ad (4000000 + i)), .int (nI k)]) (n := 2) (Nat.le_of_ble_eq_true rfl)
  rw [lg_entry_eq]
  generalize (lg_sl ([.ref (ad (4000000 + i)), .int (nI k)]) ++ List.replicate (2 - (lg_sl ([.ref (ad (4000000 + i)), .int (nI k)])).length) Slot.unset).toArray = ls at hl ⊢
  have hl : lv_has ls 2 [(0, .ref (ad (4000000 + i))), (1, .int (nI k))] := hl
  refine lv_aload_n (k := 0) hx hb (by decide +kernel) rfl (lv_at hl 0 rfl) ?_
  refine am_callp (a := #[]) (va_runV (As := []) (rest := []) (C := "java/lang/String") ⟨hx, hb, hml, hown, hts⟩ (am_isLat (A := A) (ad := ad) (adV := adV) (L := L) (xs := xs) hi) (cwV 0 hts (am_gV (am_stp_in 7 rfl) (am_stp_in 8 rfl) (am_stp_in 9 rfl) (am_stp_in 21 rfl) (am_stp_in 10 rfl)) rfl rfl rfl ⟨rfl, by decide, by decide, by decide +kernel⟩ ⟨by show 0 + 1 ≤ 6; omega, by show 8 + (1 + 11) + 0 ≤ 256; omega⟩) ⟨am_Eb, vk_recv hE.2.2.1 hi hS, fun U hU hW => ⟨rfl, by show am_E A ad adV L xs U U.heap; rw [hU]; exact hE.warm hW⟩⟩ rfl rfl hl.1 rfl (lv_room (by show 0 ≤ 8; omega)) (show decode prog_17_method_56_code 1 = .ok (.invokevirtual 492, 3) by decide +kernel) ⟨Nat.zero_le _, Nat.zero_le _⟩) hS (fun locs1 hS1 => ?_)
  refine lv_if_eq (off := 12) (tgt := 16) hx hb (by decide +kernel) rfl (fun h => absurd h (by decide)) (fun _ => ?_)
  refine lv_aload_n (k := 0) hx hb (by decide +kernel) rfl (lv_at hl 0 rfl) ?_
  refine vk_getf hx hb (hE.2.2.1.1 i hi).2.2.1 hS1 hown (hts _ (lw_gw_in (am_stp_in 0 rfl) rfl)) (fun _ h9 => h9) (by decide +kernel) ?_
  refine lv_iload_n (k := 1) hx hb (by decide +kernel) rfl (lv_at hl 1 rfl) ?_
  refine am_callp (a := #[]) (va_runS (As := [.ref (adV i), .int (nI k)]) (rest := []) ⟨hx, hb, hml, hown, hts⟩ (am_lchar (A := A) (ad := ad) (adV := adV) (L := L) (xs := xs) hi hk) (va_cwS 2 hts (am_gS (am_stp_in 11 rfl) (am_stp_in 12 rfl) (am_stp_in 22 rfl) (am_stp_in 13 rfl)) rfl rfl rfl ⟨by decide, by decide, by decide +kernel⟩ ⟨by show 2 + 1 ≤ 6; omega, by show 8 + (2 + 11) + 64 ≤ 256; omega⟩) ⟨am_Eb, fun U hU hW => ⟨rfl, by show am_E A ad adV L xs U U.heap; rw [hU]; exact hE.warm hW⟩⟩ rfl rfl hl.1 rfl (lv_room (by show 0 ≤ 8; omega)) (show decode prog_17_method_56_code 12 = .ok (.invokestatic 495, 3) by decide +kernel) ⟨Nat.zero_le _, Nat.zero_le _⟩) hS1 (fun locs2 hS2 => ?_)
  exact W.zret hx hb hr (am_btn hi hk) (fun t ht hW => ⟨rfl, ht⟩) hS2.2.2 (by decide +kernel)
theorem am_str (l : Launch) : am_Str l := fun _ _ _ _ _ _ hi => ⟨am_lengthM hi, fun _ hk => am_charM hi hk⟩
end STR
end
section
/-! ===== rows of rows ===== -/
theorem am_rows_n (a c n : Nat) : ∀ (k p : Nat) (S : am_S), am_n (am_rows a c n k p S) = am_n S + k
  | 0, _, _ => rfl
  | k + 1, p, S => by
    show am_n (am_rows a c n k (p + 1) (am_pr (am_mk S c n) a p (am_n S))) = _
    rw [am_rows_n]
    show am_n S + 1 + k = am_n S + (k + 1)
    omega
theorem am_rows_w (a c n : Nat) : ∀ (k p : Nat) (S : am_S), am_w (am_rows a c n k p S) = am_w S + k * n
  | 0, _, _ => by simp [am_rows]
  | k + 1, p, S => by
    show am_w (am_rows a c n k (p + 1) (am_pr (am_mk S c n) a p (am_n S))) = _
    rw [am_rows_w]
    show am_w S + n + k * n = am_w S + (k + 1) * n
    rw [Nat.succ_mul]; omega
theorem am_rows_old (a c n x : Nat) : ∀ (k p : Nat) (S : am_S), x < am_n S → am_c (am_rows a c n k p S) x = am_c S x ∧ am_l (am_rows a c n k p S) x = am_l S x ∧ am_i (am_rows a c n k p S) x = am_i S x ∧ am_j (am_rows a c n k p S) x = am_j S x ∧ (x ≠ a → am_r (am_rows a c n k p S) x = am_r S x)
  | 0, _, _, _ => ⟨rfl, rfl, rfl, rfl, fun _ => rfl⟩
  | k + 1, p, S, h => by
    have hne : x ≠ am_n S := by omega
    obtain ⟨h1, h2, h3, h4, h5⟩ := am_rows_old a c n x k (p + 1) (am_pr (am_mk S c n) a p (am_n S)) (by show x < am_n S + 1; omega)
    refine ⟨h1.trans (am_up_n hne), h2.trans (am_up_n hne), h3.trans (am_up_n hne), h4.trans (am_up_n hne), fun hx => (h5 hx).trans ?_⟩
    show am_up (am_r (am_mk S c n)) a _ x = _
    rw [am_up_n hx]
    exact am_up_n hne
theorem am_rows_r (a c n : Nat) : ∀ (k p : Nat) (S : am_S), a < am_n S → ∀ j, am_r (am_rows a c n k p S) a j = if p ≤ j ∧ j < p + k then some (am_n S + (j - p)) else am_r S a j
  | 0, p, S, _, j => by rw [if_neg (by omega)]; rfl
  | k + 1, p, S, h, j => by
    show am_r (am_rows a c n k (p + 1) (am_pr (am_mk S c n) a p (am_n S))) a j = _
    rw [am_rows_r a c n k (p + 1) (am_pr (am_mk S c n) a p (am_n S)) (by show a < am_n S + 1; omega) j]
    have e1 : am_n (am_pr (am_mk S c n) a p (am_n S)) = am_n S + 1 := rfl
    have e2 : am_r (am_pr (am_mk S c n) a p (am_n S)) a j = if j = p then some (am_n S) else am_r S a j := by
      show am_up (am_r (am_mk S c n)) a (am_up (am_r (am_mk S c n) a) p (some (am_n S))) a j = _
      rw [am_up_s]
      show (if j = p then some (am_n S) else am_r (am_mk S c n) a j) = _
      rw [show am_r (am_mk S c n) a = am_r S a from am_up_n (by omega)]
    rw [e1, e2]
    by_cases h1 : j = p
    · subst h1
      rw [if_neg (by omega), if_pos rfl, if_pos (by omega), Nat.sub_self]
      rfl
    · rw [if_neg h1]
      by_cases h2 : p + 1 ≤ j ∧ j < p + 1 + k
      · rw [if_pos h2, if_pos (by omega)]
        congr 1
        omega
      · rw [if_neg h2, if_neg (by omega)]
theorem am_rows_new (a c n : Nat) : ∀ (k p : Nat) (S : am_S) (j : Nat), a < am_n S → j < k → am_c (am_rows a c n k p S) (am_n S + j) = c ∧ am_l (am_rows a c n k p S) (am_n S + j) = n ∧ am_i (am_rows a c n k p S) (am_n S + j) = (fun _ => 0) ∧ am_j (am_rows a c n k p S) (am_n S + j) = (fun _ => 0) ∧ am_r (am_rows a c n k p S) (am_n S + j) = (fun _ => none)
  | 0, _, _, _, _, h => absurd h (by omega)
  | k + 1, p, S, 0, ha, _ => by
    obtain ⟨h1, h2, h3, h4, h5⟩ := am_rows_old a c n (am_n S) k (p + 1) (am_pr (am_mk S c n) a p (am_n S)) (by show am_n S < am_n S + 1; omega)
    refine ⟨h1.trans am_up_s, h2.trans am_up_s, h3.trans am_up_s, h4.trans am_up_s, (h5 (by omega)).trans ?_⟩
    show am_up (am_r (am_mk S c n)) a _ (am_n S) = _
    rw [am_up_n (by omega)]
    exact am_up_s
  | k + 1, p, S, j + 1, ha, h => by
    have hh := am_rows_new a c n k (p + 1) (am_pr (am_mk S c n) a p (am_n S)) j (by show a < am_n S + 1; omega) (by omega)
    have e1 : am_n (am_pr (am_mk S c n) a p (am_n S)) + j = am_n S + (j + 1) := by show am_n S + 1 + j = _; omega
    rw [e1] at hh
    exact hh
theorem am_Iv.rows {L : Nat} {xs : Nat → Int32} {a c n : Nat} (hc : am_vk c) : ∀ (k p : Nat) {S : am_S}, am_Iv L xs S → am_n S + k < 1200 → am_Iv L xs (am_rows a c n k p S)
  | 0, _, _, h, _ => h
  | k + 1, p, S, h, hn => am_Iv.rows hc k (p + 1) ((h.mk (n := n) hc (by omega)).pr (Nat.lt_succ_self _)) (by show am_n S + 1 + k < 1200; omega)
theorem am_wd_rows {dA : Nat → ClassId} {ad ad' : Nat → Nat} {S : am_S} {c0 c n k : Nat} (g : am_ag (am_n S) ad ad') (h : ∀ a j r, am_r S a j = some r → r < am_n S) (h0 : 102 < c0) (hc : 100 ≤ c ∧ c ≤ 102) :
    am_wd dA ad' (am_rows (am_n S) c n k 0 (am_mk S c0 k)) = (am_wd dA ad S ++ [(ad' (am_n S), .inl (dA c0, k, .inr (.inr (.inr (.inr (fun j => if j < k then some (ad' (am_n S + 1 + j)) else none))))))]) ++ (List.range k).map fun j => (ad' (am_n S + 1 + j), .inl (dA c, n, if c < 102 then .inl (fun _ => 0) else .inr (.inl (fun _ => 0)))) := by
  have e0 : am_n (am_mk S c0 k) = am_n S + 1 := rfl
  conv => lhs; unfold am_wd
  rw [am_rows_n, e0, List.range_add, List.map_append, List.range_succ, List.map_append]
  congr 1
  · congr 1
    · rw [← am_wd_ag g h]
      unfold am_wd
      apply List.map_congr_left
      intro x hx
      have hx := List.mem_range.mp hx
      congr 1
      obtain ⟨h1, h2, h3, h4, h5⟩ := am_rows_old (am_n S) c n x k 0 (am_mk S c0 k) (by rw [e0]; omega)
      have hne : x ≠ am_n S := by omega
      exact am_ce_eq (h1.trans (am_up_n hne)) (h2.trans (am_up_n hne)) (h3.trans (am_up_n hne)) (h4.trans (am_up_n hne)) ((h5 hne).trans (am_up_n hne))
    · simp only [List.map_cons, List.map_nil]
      congr 2
      obtain ⟨h1, h2, h3, h4, -⟩ := am_rows_old (am_n S) c n (am_n S) k 0 (am_mk S c0 k) (by rw [e0]; omega)
      have hcc : am_c (am_rows (am_n S) c n k 0 (am_mk S c0 k)) (am_n S) = c0 := h1.trans am_up_s
      rw [am_ce_a hcc (by omega), am_ac_r hcc h0, h2]
      rw [show am_l (am_mk S c0 k) (am_n S) = k from am_up_s]
      congr 7
      funext j
      rw [am_rows_r (am_n S) c n k 0 (am_mk S c0 k) (by rw [e0]; omega) j]
      by_cases hj : j < k
      · rw [if_pos (by omega), if_pos hj]
        show some (ad' (am_n (am_mk S c0 k) + (j - 0))) = _
        rw [e0, Nat.sub_zero]
      · rw [if_neg (by omega), if_neg hj]
        show (am_r (am_mk S c0 k) (am_n S) j).map ad' = none
        rw [show am_r (am_mk S c0 k) (am_n S) = fun _ => none from am_up_s]
        rfl
  · rw [List.map_map]
    apply List.map_congr_left
    intro j hj
    have hj := List.mem_range.mp hj
    show (ad' (am_n S + 1 + j), _) = _
    congr 1
    obtain ⟨h1, h2, h3, h4, h5⟩ := am_rows_new (am_n S) c n k 0 (am_mk S c0 k) j (by rw [e0]; omega) hj
    rw [e0] at h1 h2 h3 h4 h5
    rw [am_ce_a h1 (by omega)]
    unfold am_ac
    rw [h1, h2, h3, h4, h5]
    congr 3
    by_cases h9 : c < 102
    · rw [if_pos h9, if_pos h9]
    · rw [if_neg h9, if_neg h9, if_pos (by omega)]
theorem vr_outer (c : ClassId) (N h0 : Nat) : ∀ i : Nat, Jvm.Free.Multi.outerC c N h0 i = arrV c N (fun j => va_rf (if j < i then some (h0 + 1 + j) else none))
  | 0 => by
    show ({ cls := c, slots := Array.replicate N .null, vm := .none } : Cell) = _
    rw [arrV_new]
    refine congrArg (arrV c N) (funext fun j => ?_)
    simp [va_rf]
  | i + 1 => by
    show (Jvm.Free.Multi.outerC c N h0 i).setSlot i (.ref (h0 + 1 + i)) = _
    rw [vr_outer c N h0 i, arrV_store]
    refine congrArg (arrV c N) (funext fun j => ?_)
    by_cases e : j = i
    · subst e
      simp [updV, va_rf]
    · by_cases h : j < i
      · simp [updV, e, h, Nat.lt_succ_of_lt h]
      · simp [updV, e, h, show ¬ j < i + 1 by omega]
section VGM
variable {p : Program} {l : Launch} {e : Env} {R : Room} {s : State} {m : MethodId} {args : Array Value} {below : List Frame} {meth : Method} {c : Code} {H : Heap} {locs : List Loc} {cells slots : Nat} {Q : State → Prop}
variable {cc : ByteArray} {pc : Nat} {ls : Array Slot} {rest : List Value} {D : va_G} {cl : List vw_C} {A : Nat → Prop} {ws : va_W} {H0 : Heap}
set_option maxHeartbeats 4000000 in
theorem am_mna {cc : ByteArray} (hexec : p.tables.exec = Jvm.exec) (hb : c.code = cc) {own : String} {index : Nat} {ty : FieldType} {cA cy : ClassId} (hown : s.vm.findClass own = some m.cls) (hclink : (Cond.classLink own index ("[" ++ (FieldType.array ty).toString)).before args s = true) (hover : (Cond.arrayOver (.array ty)).before args s = true) (harr : (Cond.arrayClass ty).before args s = true) (hcA : s.vm.findClass ("[" ++ (FieldType.array ty).toString) = some cA) (hcy : s.vm.findClass (FieldType.array ty).toString = some cy)
    (hP : va_P D cl ws H) (hD : va_D A ws) (hS : va_S A H0 H locs) (hA : ∀ q, H0.size ≤ q → A q) {n k : Int32} {z : vp_A} (hn : ¬ n < 0) (hk : ¬ k < 0)
    (hb1 : n.toNatClampNeg * 4 ≤ 536870912) (hb2 : k.toNatClampNeg * componentBytes ty ≤ 536870912) (hb3 : k.toNatClampNeg ≤ 536870912) (hdf : fits ty (defaultValue ty) = true) (hdd : (defaultValue ty).isDefault = true) (hcells : cells + (1 + n.toNatClampNeg) ≤ R.cells) (hslots : slots + (n.toNatClampNeg + n.toNatClampNeg * k.toNatClampNeg) ≤ R.slots) (hz : Jvm.Free.Multi.innerC cy k.toNatClampNeg (defaultValue ty) = vp_cell cy z) (hdg : decode cc pc = .ok (.multianewarray index 2, 4))
    (kk : ∀ (H1 : Heap), va_P D cl ((ws ++ [(H.size, .inl (cA, n.toNatClampNeg, .inr (.inr (.inr (.inr (fun i => if i < n.toNatClampNeg then some (H.size + 1 + i) else none))))))]) ++ (List.range n.toNatClampNeg).map fun i => (H.size + 1 + i, .inl (cy, z))) H1 →
      va_D A ((ws ++ [(H.size, .inl (cA, n.toNatClampNeg, .inr (.inr (.inr (.inr (fun i => if i < n.toNatClampNeg then some (H.size + 1 + i) else none))))))]) ++ (List.range n.toNatClampNeg).map fun i => (H.size + 1 + i, .inl (cy, z))) → va_S A H0 H1 locs →
      W p l e R s m args below meth c H1 locs (cells + 1 + n.toNatClampNeg) (slots + n.toNatClampNeg + n.toNatClampNeg * k.toNatClampNeg) Q (F0 m (pc + 4) ls (.ref H.size :: rest))) : W p l e R s m args below meth c H locs cells slots Q (F0 m pc ls (.int k :: .int n :: rest)) := by
  intro T hT Xs
  obtain ⟨vm₁, cA', comp, -, fA, fC, hO, -, X', step⟩ := Xs.multianewarray2F hexec hown hclink hover harr (g := F0 m pc ls (.int k :: .int n :: rest)) rfl (by rw [hb]; exact hdg) rfl hn hk hb1 hb2 hb3 hdf hdd hcells hslots
  have ec : some cy = some comp := hcy.symm.trans fC
  cases ec
  have ec : some cA = some cA' := hcA.symm.trans fA
  cases ec
  generalize hF : Jvm.Free.Multi.fill (T.setVm vm₁) cA cy n.toNatClampNeg k.toNatClampNeg (defaultValue ty) n.toNatClampNeg = F at X' step
  have hTh : (T.setVm vm₁).heap = H := hT
  obtain ⟨f1, f2, -, -⟩ := Jvm.Free.Multi.fill_facts (T.setVm vm₁) cA cy n.toNatClampNeg k.toNatClampNeg (defaultValue ty) n.toNatClampNeg
  rw [hF, hTh] at f1 f2
  have hold : ∀ x : Nat, x < H.size → F.heap[x]? = H[x]? := fun x hx => by
    have := Jvm.Free.Multi.fill_old (T.setVm vm₁) cA cy n.toNatClampNeg k.toNatClampNeg (defaultValue ty) (a := x) (by rw [hTh]; exact hx) n.toNatClampNeg
    rw [hF, hTh] at this
    exact this
  have hrow : ∀ j : Nat, j < n.toNatClampNeg → F.heap[H.size + 1 + j]? = some (vp_cell cy z) := fun j hj => by
    have := Jvm.Free.Multi.fill_inner (T.setVm vm₁) cA cy n.toNatClampNeg k.toNatClampNeg (defaultValue ty) n.toNatClampNeg j hj
    rw [hF, hTh, hz] at this
    exact this
  have hout : Jvm.Free.Multi.outerC cA n.toNatClampNeg H.size n.toNatClampNeg = vp_cell cA (n.toNatClampNeg, .inr (.inr (.inr (.inr (fun i => if i < n.toNatClampNeg then some (H.size + 1 + i) else none))))) := by
    rw [vp_cell_q]
    exact vr_outer cA n.toNatClampNeg H.size n.toNatClampNeg
  rw [hout] at f2
  have hP0 : va_P D cl ws F.heap := hP.kept (fun k9 x hx => hold x.1 ((hP k9 x hx).lt))
  have hP1 : va_P D cl (ws ++ [(H.size, .inl (cA, n.toNatClampNeg, .inr (.inr (.inr (.inr (fun i => if i < n.toNatClampNeg then some (H.size + 1 + i) else none))))))]) F.heap := hP0.app (fun k9 x hx => by
    have h0 : k9 < 1 := (List.getElem?_eq_some_iff.mp hx).1
    rw [show k9 = 0 by omega] at hx
    cases hx
    exact f2)
  have hP2 : va_P D cl ((ws ++ [(H.size, .inl (cA, n.toNatClampNeg, .inr (.inr (.inr (.inr (fun i => if i < n.toNatClampNeg then some (H.size + 1 + i) else none))))))]) ++ (List.range n.toNatClampNeg).map fun i => (H.size + 1 + i, .inl (cy, z))) F.heap := hP1.app (fun k9 x hx => by
    obtain ⟨i, hi, rfl⟩ := List.mem_map.mp (List.mem_of_getElem? hx)
    exact hrow i (List.mem_range.mp hi))
  have hD2 : va_D A ((ws ++ [(H.size, .inl (cA, n.toNatClampNeg, .inr (.inr (.inr (.inr (fun i => if i < n.toNatClampNeg then some (H.size + 1 + i) else none))))))]) ++ (List.range n.toNatClampNeg).map fun i => (H.size + 1 + i, .inl (cy, z))) := by
    have hD1 := hD.push (e := .inl (cA, n.toNatClampNeg, .inr (.inr (.inr (.inr (fun i => if i < n.toNatClampNeg then some (H.size + 1 + i) else none)))))) hP rfl (hA _ hS.1)
    generalize hW1 : ws ++ [(H.size, .inl (cA, n.toNatClampNeg, .inr (.inr (.inr (.inr (fun i => if i < n.toNatClampNeg then some (H.size + 1 + i) else none))))))] = W1 at hD1 hP1 ⊢
    have hle : ∀ (k9 : Nat) (x : Nat × va_E), W1[k9]? = some x → x.1 ≤ H.size := fun k9 x hx => by
      rw [← hW1] at hx
      by_cases hl : k9 < ws.length
      · rw [List.getElem?_append_left hl] at hx
        exact Nat.le_of_lt ((hP k9 x hx).lt)
      · rw [List.getElem?_append_right (by omega)] at hx
        have h0 : k9 - ws.length < 1 := (List.getElem?_eq_some_iff.mp hx).1
        rw [show k9 - ws.length = 0 by omega] at hx
        cases hx
        exact Nat.le_refl _
    have hr : ∀ (k9 : Nat) (x : Nat × va_E), ((List.range n.toNatClampNeg).map fun i => ((H.size + 1 + i, .inl (cy, z)) : Nat × va_E))[k9]? = some x → x.1 = H.size + 1 + k9 := fun k9 x hx => by
      rw [List.getElem?_map] at hx
      by_cases h9 : k9 < n.toNatClampNeg
      · rw [List.getElem?_range h9] at hx
        cases hx
        rfl
      · have hn0 : (List.range n.toNatClampNeg)[k9]? = none := List.getElem?_eq_none (by rw [List.length_range]; omega)
        rw [hn0] at hx
        cases hx
    refine ⟨fun i j x y hi hj hxy => ?_, fun k9 x hx => ?_⟩
    · by_cases h1 : i < W1.length <;> by_cases h2 : j < W1.length
      · rw [List.getElem?_append_left h1] at hi
        rw [List.getElem?_append_left h2] at hj
        exact hD1.1 i j x y hi hj hxy
      · rw [List.getElem?_append_left h1] at hi
        rw [List.getElem?_append_right (by omega)] at hj
        have := hle _ _ hi
        have := hr _ _ hj
        omega
      · rw [List.getElem?_append_right (by omega)] at hi
        rw [List.getElem?_append_left h2] at hj
        have := hle _ _ hj
        have := hr _ _ hi
        omega
      · rw [List.getElem?_append_right (by omega)] at hi hj
        have := hr _ _ hi
        have := hr _ _ hj
        omega
    · by_cases h1 : k9 < W1.length
      · rw [List.getElem?_append_left h1] at hx
        exact hD1.2 k9 x hx
      · rw [List.getElem?_append_right (by omega)] at hx
        have := hr _ _ hx
        exact hA _ (by have := hS.1; omega)
  obtain ⟨t, a1, b1⟩ := kk F.heap hP2 hD2 ⟨by rw [f1]; have := hS.1; omega, fun x h1 h2 => (hold x (Nat.lt_of_lt_of_le h1 hS.1)).trans (hS.2.1 x h1 h2), hS.2.2⟩ F rfl X'
  refine ⟨t, step t ?_, b1⟩
  have e : T.heap.size = H.size := by rw [hT]
  rw [e]
  exact a1
end VGM
def am_adr (n h : Nat) (ad : Nat → Nat) : Nat → Nat := fun q => if n ≤ q ∧ q < 2000000 then h + (q - n) else ad q
theorem am_adr_ag {n h : Nat} {ad : Nat → Nat} : am_ag n ad (am_adr n h ad) := fun q hq => if_neg (by omega)
theorem am_adr_at {n h : Nat} {ad : Nat → Nat} (q : Nat) (hn : n < 1200) (hq : q < 1000) : am_adr n h ad (n + q) = h + q := by
  unfold am_adr
  rw [if_pos (by omega)]
  omega
theorem am_wd_rowsE {dA : Nat → ClassId} {ad : Nat → Nat} {S : am_S} {c0 c n k h : Nat} {z : vp_A} (hr : ∀ a j r, am_r S a j = some r → r < am_n S) (h0 : 102 < c0) (hc : 100 ≤ c ∧ c ≤ 102) (hn : am_n S < 1000) (hk : k ≤ 100) (hz : (n, if c < 102 then .inl (fun _ => 0) else .inr (.inl (fun _ => 0))) = z) :
    (am_wd dA ad S ++ [(h, .inl (dA c0, k, .inr (.inr (.inr (.inr (fun j => if j < k then some (h + 1 + j) else none))))))]) ++ (List.range k).map (fun j => (h + 1 + j, .inl (dA c, z))) = am_wd dA (am_adr (am_n S) h ad) (am_rows (am_n S) c n k 0 (am_mk S c0 k)) := by
  subst hz
  rw [am_wd_rows am_adr_ag hr h0 hc]
  have e0 : am_adr (am_n S) h ad (am_n S) = h := am_adr_at 0 (by omega) (by omega)
  have e1 : ∀ j, j < k → am_adr (am_n S) h ad (am_n S + 1 + j) = h + 1 + j := fun j hj => by
    have := am_adr_at (n := am_n S) (h := h) (ad := ad) (1 + j) (by omega) (by omega)
    rw [show am_n S + 1 + j = am_n S + (1 + j) by omega, this]; omega
  rw [e0]
  congr 1
  · have ef : (fun j => if j < k then some (h + 1 + j) else none) = fun j => if j < k then some (am_adr (am_n S) h ad (am_n S + 1 + j)) else none := funext fun j => by
      by_cases hj : j < k
      · rw [if_pos hj, if_pos hj, e1 j hj]
      · rw [if_neg hj, if_neg hj]
    rw [ef]
  · apply List.map_congr_left
    intro j hj
    rw [e1 j (List.mem_range.mp hj)]
end
section
/-! ===== calls, d deep at most; the receiver is of the method's class ===== -/
def pg_ct0 (z : Nat) : Bool := (pg_nm z).name == "<init>"
def am_nod : List Value → Bool
  | [] => true
  | .double _ :: _ => false
  | .retAddr _ :: _ => false
  | _ :: l => am_nod l
def am_rcv (y : Nat) (as : List Value) (S : am_S) : Bool := match as with
  | .ref b :: _ => Nat.beq (am_c S b) (pg_ow y)
  | _ => false
def am_gr (y : Nat) (as : List Value) (S : am_S) : Bool := Nat.blt y 272 && (am_nod as && (Nat.ble (am_spr as).length (pg_mx y) && (pg_is y || am_rcv y as S)))
noncomputable def am_cal : Nat → Nat → List Value → am_S → am_R
  | 0, _, _, _ => none
  | d + 1, y, as, S => if am_gr y as S = true then am_X (am_cal d) y 0 (am_ent y as) [] S else none
theorem am_cal_spec {d y : Nat} {as : List Value} {S : am_S} {r : Option Value × am_S} (h : am_cal (d + 1) y as S = some r) : am_gr y as S = true ∧ ∃ n, am_run (am_cal d) y n 0 (am_ent y as) [] S = some r := by
  have h : (if am_gr y as S = true then am_X (am_cal d) y 0 (am_ent y as) [] S else none) = some r := h
  by_cases hg : am_gr y as S = true
  · rw [if_pos hg] at h
    exact ⟨hg, am_X_to h⟩
  · rw [if_neg hg] at h; cases h
theorem am_gr_spec {y : Nat} {as : List Value} {S : am_S} (h : am_gr y as S = true) : y < 272 ∧ am_nod as = true ∧ (am_spr as).length ≤ pg_mx y ∧ (pg_is y = false → ∃ b As, as = .ref b :: As ∧ am_c S b = pg_ow y) := by
  unfold am_gr at h
  simp only [Bool.and_eq_true] at h
  obtain ⟨h1, h2, h3, h4⟩ := h
  refine ⟨by simpa [Nat.blt_eq] using h1, h2, Nat.le_of_ble_eq_true h3, fun hs => ?_⟩
  rw [hs] at h4
  have h4 : am_rcv y as S = true := by simpa using h4
  rcases as with _ | ⟨v, as⟩
  · cases h4
  · cases v with
    | ref b => exact ⟨b, as, rfl, Nat.eq_of_beq_eq_true h4⟩
    | _ => cases h4
/-! ===== what a method that is no constructor leaves as it was ===== -/
def am_ly (S : am_S) : Nat × Nat × (Nat → Nat) × (Nat → Nat) × (Nat → Nat → Option Nat) := (am_n S, am_w S, am_c S, am_l S, am_r S)
theorem pg_at_mem {α : Type} (d : α) : ∀ (l : List α) (k : Nat), pg_at d l k = d ∨ pg_at d l k ∈ l
  | [], _ => Or.inl rfl
  | a :: _, 0 => Or.inr List.mem_cons_self
  | _ :: l, k + 1 => (pg_at_mem d l k).imp id (List.mem_cons_of_mem _)
theorem pg_cd_mem (m i : Nat) : pg_cd m i = .nop ∨ pg_cd m i ∈ (pg_m m).flatten := by
  unfold pg_cd
  rcases pg_at_mem .nop (pg_at [] (pg_m m) (i / 16)) (i % 16) with h | h
  · exact Or.inl h
  · rcases pg_at_mem [] (pg_m m) (i / 16) with h2 | h2
    · rw [h2] at h; cases h
    · exact Or.inr (List.mem_flatten.mpr ⟨_, h2, h⟩)
def pg_quiet (i : Instr) : Bool := !am_al i && (match i with | .invokestatic z => Nat.blt z 272 && !(pg_ct0 z) | _ => true)
set_option maxRecDepth 100000 in
theorem pg_qt : ∀ y, y < 272 → pg_ct0 y = true ∨ (pg_m y).flatten.all pg_quiet = true := by decide +kernel
def am_nor (f : Nat → List Value → am_S → am_R) : Nat → List Value → am_S → am_R := fun z as S => if (Nat.blt z 272 && !(pg_ct0 z)) = true then f z as S else none
theorem am_stp_nor {f : Nat → List Value → am_S → am_R} {K : Nat → List Value → List Value → am_S → am_R} {ins : Instr} {i : Nat} {lo st : List Value} {S : am_S} (h : pg_quiet ins = true) : am_stp f K ins i lo st S = am_stp (am_nor f) K ins i lo st S := by
  cases ins
  case invokestatic z =>
    have hz : (Nat.blt z 272 && !(pg_ct0 z)) = true := h
    have e : f z = am_nor f z := by
      funext as S
      unfold am_nor
      rw [if_pos hz]
    unfold am_stp
    simp only [e]
  case invokespecial z => cases h
  all_goals rfl
theorem am_lrun {f : Nat → List Value → am_S → am_R} (hf : ∀ z as S v S', z < 272 → pg_ct0 z = false → f z as S = some (v, S') → am_ly S' = am_ly S) {y : Nat} (hy : y < 272) (hc : pg_ct0 y = false) : ∀ (n i : Nat) (lo st : List Value) (S : am_S) (r : Option Value × am_S), am_run f y n i lo st S = some r → am_ly r.2 = am_ly S
  | 0, _, _, _, _, _, h => by cases h
  | n + 1, i, lo, st, S, r, h => by
    have h : am_stp f (am_run f y n) (pg_cd y i) i (am_kil y i lo) st S = some r := h
    have hq : pg_cd y i = .nop ∨ pg_quiet (pg_cd y i) = true := by
      rcases pg_cd_mem y i with h1 | h1
      · exact Or.inl h1
      · rcases pg_qt y hy with h2 | h2
        · rw [hc] at h2; cases h2
        · exact Or.inr (List.all_eq_true.mp h2 _ h1)
    rcases hq with hq | hq
    · rw [hq] at h; cases h
    · rw [am_stp_nor hq] at h
      have hal : am_al (pg_cd y i) = true → false = true := fun ha => by
        unfold pg_quiet at hq
        rw [ha] at hq
        cases hq
      exact am_pres (Qr := fun S' => am_ly S' = am_ly S) (G := fun S' => am_ly S' = am_ly S) (f := am_nor f) (K := am_run f y n) (S := S) (al := false)
        (fun i lo st S' hS' r hr => (am_lrun hf hy hc n i lo st S' r hr).trans hS') rfl rfl (fun _ _ _ => rfl) (fun _ _ _ => rfl) (fun _ _ _ _ _ => rfl) (fun h => by cases h) (fun h => by cases h) (fun h => by cases h)
        (fun z as v S' hz => by
          by_cases hz2 : (Nat.blt z 272 && !(pg_ct0 z)) = true
          · have hz : (if (Nat.blt z 272 && !(pg_ct0 z)) = true then f z as S else none) = some (v, S') := hz
            rw [if_pos hz2] at hz
            simp only [Bool.and_eq_true, Bool.not_eq_true'] at hz2
            exact hf z as S v S' (by simpa [Nat.blt_eq] using hz2.1) hz2.2 hz
          · have hz : (if (Nat.blt z 272 && !(pg_ct0 z)) = true then f z as S else none) = some (v, S') := hz
            rw [if_neg hz2] at hz
            cases hz) _ hal _ _ _ r h
theorem am_cal_ly : ∀ (d y : Nat) (as : List Value) (S : am_S) (v : Option Value) (S' : am_S), pg_ct0 y = false → am_cal d y as S = some (v, S') → am_ly S' = am_ly S
  | 0, _, _, _, _, _, _, h => by cases h
  | d + 1, y, as, S, v, S', hc, h => by
    obtain ⟨hg, n, hn⟩ := am_cal_spec h
    exact am_lrun (fun z as S v S' _ hz h => am_cal_ly d z as S v S' hz h) (am_gr_spec hg).1 hc n _ _ _ _ _ hn
/-! ===== the locals at a method's start ===== -/
theorem am_pad_nth : ∀ (n : Nat) (l : List Value) (k : Nat) (v : Value), am_nth (am_pad n l) k = v → v ≠ .null → am_nth l k = v
  | 0, _, _, _, h, _ => h
  | n + 1, [], 0, v, h, hv => absurd h.symm hv
  | n + 1, [], k + 1, v, h, hv => absurd (am_pad_nth n [] k v h hv).symm (by
      have : am_nth ([] : List Value) k = .null := by cases k <;> rfl
      intro e
      rw [this] at e
      exact hv (by cases e; rfl))
  | n + 1, a :: l, 0, v, h, _ => h
  | n + 1, a :: l, k + 1, v, h, hv => am_pad_nth n l k v h hv
theorem am_pad_len : ∀ (n : Nat) (l : List Value), l.length ≤ n → (am_pad n l).length = n
  | 0, l, h => by simpa [am_pad] using h
  | n + 1, [], _ => congrArg (· + 1) (am_pad_len n [] (Nat.zero_le _))
  | n + 1, a :: l, h => congrArg (· + 1) (am_pad_len n l (by simpa using h))
theorem am_spr_sl (ad : Nat → Nat) : ∀ (l : List Value), am_nod l = true → (lg_sl (l.map (am_tr ad))).length = (am_spr l).length
  | [], _ => rfl
  | v :: l, h => by
    have hl : am_nod l = true := by cases v <;> first | exact h | cases h
    have e := am_spr_sl ad l hl
    show (lg_sl (am_tr ad v :: l.map (am_tr ad))).length = _
    have e2 : lg_sl (am_tr ad v :: l.map (am_tr ad)) = (if (am_tr ad v).category = 2 then [.val (am_tr ad v), .second] else [.val (am_tr ad v)]) ++ lg_sl (l.map (am_tr ad)) := rfl
    rw [e2, List.length_append, e]
    cases v <;> first | (cases h; done) | (show _ = (am_spr l).length + 1; simp [am_tr, Value.category]; omega) | (show _ = (am_spr l).length + 1 + 1; simp [am_tr, Value.category]; omega)
theorem am_spr_in (ad : Nat → Nat) : ∀ (l : List Value) (j k : Nat) (v : Value), am_nod l = true → am_nth (am_spr l) k = v → v ≠ .null → (j + k, am_tr ad v) ∈ lv_args j (l.map (am_tr ad))
  | [], _, k, v, _, h, hv => absurd h.symm (by
      have : am_nth ([] : List Value) k = .null := by cases k <;> rfl
      show v ≠ am_nth [] k
      rw [this]
      exact hv)
  | .long x :: l, j, 0, v, h0, h, hv => by
    have h : Value.long x = v := h
    subst h
    exact List.mem_cons_self
  | .long x :: l, j, 1, v, h0, h, hv => absurd h.symm hv
  | .long x :: l, j, k + 2, v, h0, h, hv => by
    have := am_spr_in ad l (j + 2) k v h0 h hv
    rw [show j + (k + 2) = j + 2 + k by omega]
    exact List.mem_cons_of_mem _ this
  | .double x :: l, j, k, v, h0, h, hv => by cases h0
  | .retAddr x :: l, j, k, v, h0, h, hv => by cases h0
  | .int x :: l, j, 0, v, h0, h, hv => by
    have h : Value.int x = v := h
    subst h
    exact List.mem_cons_self
  | .int x :: l, j, k + 1, v, h0, h, hv => by
    have := am_spr_in ad l (j + 1) k v h0 h hv
    rw [show j + (k + 1) = j + 1 + k by omega]
    exact List.mem_cons_of_mem _ this
  | .ref x :: l, j, 0, v, h0, h, hv => by
    have h : Value.ref x = v := h
    subst h
    exact List.mem_cons_self
  | .ref x :: l, j, k + 1, v, h0, h, hv => by
    have := am_spr_in ad l (j + 1) k v h0 h hv
    rw [show j + (k + 1) = j + 1 + k by omega]
    exact List.mem_cons_of_mem _ this
  | .null :: l, j, 0, v, h0, h, hv => absurd h.symm hv
  | .null :: l, j, k + 1, v, h0, h, hv => by
    have := am_spr_in ad l (j + 1) k v h0 h hv
    rw [show j + (k + 1) = j + 1 + k by omega]
    exact List.mem_cons_of_mem _ this
  | .float x :: l, j, 0, v, h0, h, hv => by
    have h : Value.float x = v := h
    subst h
    exact List.mem_cons_self
  | .float x :: l, j, k + 1, v, h0, h, hv => by
    have := am_spr_in ad l (j + 1) k v h0 h hv
    rw [show j + (k + 1) = j + 1 + k by omega]
    exact List.mem_cons_of_mem _ this
theorem am_has_ent {ad : Nat → Nat} {y n : Nat} {as : List Value} {ls : Array Slot} (hn : n = pg_mx y) (h0 : am_nod as = true) (h1 : (am_spr as).length ≤ pg_mx y) (h : lv_has ls n (lv_args 0 (as.map (am_tr ad)))) : am_has ad ls n (am_ent y as) := by
  subst hn
  refine ⟨h.1, h.2.1, fun k v e hv => ?_, am_pad_len _ _ h1⟩
  have := am_spr_in ad as 0 k v h0 (am_pad_nth _ _ _ _ e hv) hv
  rw [Nat.zero_add] at this
  exact h.2.2 _ this
end
section
/-! ===== a step with callees that answer more often ===== -/
def am_Le (a b : am_R) : Prop := ∀ r, a = some r → b = some r
theorem am_Le.no {b : am_R} : am_Le none b := fun r h => by cases h
theorem am_Le.yes {x : am_R} : am_Le x x := fun r h => h
theorem am_Le.ite {c : Prop} [Decidable c] {a b a2 b2 : am_R} (ha : am_Le a a2) (hb : am_Le b b2) : am_Le (if c then a else b) (if c then a2 else b2) := by
  by_cases hc : c
  · rw [if_pos hc, if_pos hc]; exact ha
  · rw [if_neg hc, if_neg hc]; exact hb
theorem am_Le.bV {o o2 : am_R} {k k2 : am_S → am_R} (ho : am_Le o o2) (h : ∀ S, am_Le (k S) (k2 S)) : am_Le (am_bV o k) (am_bV o2 k2) := by
  rcases o with _ | ⟨_ | v, S⟩
  · exact am_Le.no
  · rw [ho _ rfl]; exact h S
  · exact am_Le.no
theorem am_Le.bI {o o2 : am_R} {k k2 : Int32 → am_S → am_R} (ho : am_Le o o2) (h : ∀ x S, am_Le (k x S) (k2 x S)) : am_Le (am_bI o k) (am_bI o2 k2) := by
  rcases o with _ | ⟨_ | v, S⟩
  · exact am_Le.no
  · exact am_Le.no
  · rw [ho _ rfl]
    cases v <;> first | exact h _ S | exact am_Le.no
theorem am_Le.bJ {o o2 : am_R} {k k2 : Int64 → am_S → am_R} (ho : am_Le o o2) (h : ∀ x S, am_Le (k x S) (k2 x S)) : am_Le (am_bJ o k) (am_bJ o2 k2) := by
  rcases o with _ | ⟨_ | v, S⟩
  · exact am_Le.no
  · exact am_Le.no
  · rw [ho _ rfl]
    cases v <;> first | exact h _ S | exact am_Le.no
theorem am_Le.bA {o o2 : am_R} {k k2 : Nat → am_S → am_R} (ho : am_Le o o2) (h : ∀ x S, am_Le (k x S) (k2 x S)) : am_Le (am_bA o k) (am_bA o2 k2) := by
  rcases o with _ | ⟨_ | v, S⟩
  · exact am_Le.no
  · exact am_Le.no
  · rw [ho _ rfl]
    cases v <;> first | exact h _ S | exact am_Le.no
theorem am_Le.bq {o : Option Nat} {k k2 : Nat → am_R} (h : ∀ x, am_Le (k x) (k2 x)) : am_Le (am_bq o k) (am_bq o k2) := by
  rcases o with _ | v
  · exact am_Le.no
  · exact h v
theorem am_Le.br {c : Jvm.ClassFile.Cond} {x y : Int32} {a b a2 b2 : am_R} (ha : am_Le a a2) (hb : am_Le b b2) : am_Le (am_br c x y a b) (am_br c x y a2 b2) := by
  cases c
  · exact am_Le.ite ha hb
  · exact am_Le.ite hb ha
  · exact am_Le.ite ha hb
  · exact am_Le.ite hb ha
  · exact am_Le.ite ha hb
  · exact am_Le.ite hb ha
theorem am_Le.sw {x : Int32} {d d2 : am_R} {K K2 : Nat → am_R} (hd : am_Le d d2) (hK : ∀ t, am_Le (K t) (K2 t)) : ∀ (ts : List Int) (lo : Nat), am_Le (am_sw x d K lo ts) (am_sw x d2 K2 lo ts)
  | [], _ => hd
  | t :: ts, lo => am_Le.ite (hK _) (am_Le.sw hd hK ts (lo + 1))
theorem am_Le.lk {x : Int32} {d d2 : am_R} {K K2 : Nat → am_R} (hd : am_Le d d2) (hK : ∀ t, am_Le (K t) (K2 t)) : ∀ (ts : List (Int × Int)), am_Le (am_lk x d K ts) (am_lk x d2 K2 ts)
  | [] => hd
  | t :: ts => am_Le.ite (hK _) (am_Le.lk hd hK ts)
theorem am_stp_le {f f2 : Nat → List Value → am_S → am_R} {K K2 : Nat → List Value → List Value → am_S → am_R} (hf : ∀ z as S, am_Le (f z as S) (f2 z as S)) (hK : ∀ i lo st S, am_Le (K i lo st S) (K2 i lo st S)) (ins : Instr) (i : Nat) (lo st : List Value) (S : am_S) :
    am_Le (am_stp f K ins i lo st S) (am_stp f2 K2 ins i lo st S) := by
  cases ins
  case getfield k =>
    rcases st with _ | ⟨v, st⟩
    · exact am_Le.no
    · cases v
      case ref a =>
        refine am_Le.ite ?_ am_Le.no
        generalize k % 4 = q
        rcases q with _ | _ | q
        · exact hK _ _ _ _
        · exact hK _ _ _ _
        · exact am_Le.bq fun _ => hK _ _ _ _
      all_goals exact am_Le.no
  case putfield k =>
    rcases st with _ | ⟨v, _ | ⟨w, st⟩⟩
    · exact am_Le.no
    · cases v <;> exact am_Le.no
    · cases v
      case int x =>
        cases w
        case ref a =>
          refine am_Le.ite ?_ am_Le.no
          generalize k % 4 = q
          rcases q with _ | _ | _ | _ | q
          · exact hK _ _ _ _
          · exact am_Le.no
          · exact am_Le.no
          · exact am_Le.ite (hK _ _ _ _) am_Le.no
          · exact am_Le.no
        all_goals exact am_Le.no
      case long x =>
        cases w
        case ref a =>
          refine am_Le.ite ?_ am_Le.no
          generalize k % 4 = q
          rcases q with _ | _ | q
          · exact am_Le.no
          · exact hK _ _ _ _
          · exact am_Le.no
        all_goals exact am_Le.no
      case ref x =>
        cases w
        case ref a =>
          refine am_Le.ite ?_ am_Le.no
          generalize k % 4 = q
          rcases q with _ | _ | _ | q
          · exact am_Le.no
          · exact am_Le.no
          · exact am_Le.ite (hK _ _ _ _) am_Le.no
          · exact am_Le.no
        all_goals exact am_Le.no
      all_goals exact am_Le.no
  case newarray t =>
    rcases st with _ | ⟨v, st⟩
    · exact am_Le.no
    · cases v
      case int x =>
        refine am_Le.ite am_Le.no ?_
        cases t <;> first | exact hK _ _ _ _ | exact am_Le.no
      all_goals exact am_Le.no
  case multianewarray k e =>
    rcases st with _ | ⟨v, _ | ⟨w, st⟩⟩
    · exact am_Le.no
    · cases v <;> exact am_Le.no
    · cases v
      case int y =>
        cases w
        case int x =>
          refine am_Le.ite am_Le.no ?_
          rcases k with _ | _ | k
          · exact hK _ _ _ _
          · exact hK _ _ _ _
          · exact am_Le.no
        all_goals exact am_Le.no
      all_goals exact am_Le.no
  case invokestatic y =>
    refine am_Le.ite ?_ am_Le.no
    generalize (pg_sg y).2 = q
    rcases q with _ | _ | _ | q
    · exact am_Le.bV (hf _ _ _) fun _ => hK _ _ _ _
    · exact am_Le.bI (hf _ _ _) fun _ _ => hK _ _ _ _
    · exact am_Le.bJ (hf _ _ _) fun _ _ => hK _ _ _ _
    · exact am_Le.bA (hf _ _ _) fun _ _ => hK _ _ _ _
  case invokespecial y => exact am_Le.ite (am_Le.bV (hf _ _ _) fun _ => hK _ _ _ _) am_Le.no
  case ireturn => exact am_Le.yes
  case freturn => exact am_Le.yes
  case lreturn => exact am_Le.yes
  case areturn => exact am_Le.yes
  case return_ => exact am_Le.yes
  case new k => exact am_Le.ite (hK _ _ _ _) am_Le.no
  case iload k =>
    have e : ∀ v, am_nth lo k = v → am_Le (am_stp f K (.iload k) i lo st S) (am_stp f2 K2 (.iload k) i lo st S) := by
      intro v hv
      simp only [am_stp, hv]
      cases v <;> first | exact hK _ _ _ _ | exact am_Le.no
    exact e _ rfl
  case lload k =>
    have e : ∀ v, am_nth lo k = v → am_Le (am_stp f K (.lload k) i lo st S) (am_stp f2 K2 (.lload k) i lo st S) := by
      intro v hv
      simp only [am_stp, hv]
      cases v <;> first | exact hK _ _ _ _ | exact am_Le.no
    exact e _ rfl
  case aload k =>
    have e : ∀ v, am_nth lo k = v → am_Le (am_stp f K (.aload k) i lo st S) (am_stp f2 K2 (.aload k) i lo st S) := by
      intro v hv
      simp only [am_stp, hv]
      cases v <;> first | exact hK _ _ _ _ | exact am_Le.no
    exact e _ rfl
  case iinc k c =>
    have e : ∀ v, am_nth lo k = v → am_Le (am_stp f K (.iinc k c) i lo st S) (am_stp f2 K2 (.iinc k c) i lo st S) := by
      intro v hv
      simp only [am_stp, hv]
      cases v <;> first | exact hK _ _ _ _ | exact am_Le.no
    exact e _ rfl
  all_goals first
    | exact am_Le.no
    | exact hK _ _ _ _
    | exact am_Le.yes
    | skip
  all_goals (rcases st with _ | ⟨v1, st⟩ <;> first | exact am_Le.no | skip)
  all_goals (first | exact am_Le.ite (hK _ _ _ _) am_Le.no | (cases v1 <;> first | exact am_Le.no | exact hK _ _ _ _ | exact am_Le.yes | exact am_Le.br (hK _ _ _ _) (hK _ _ _ _) | exact am_Le.sw (hK _ _ _ _) (fun _ => hK _ _ _ _) _ _ | exact am_Le.lk (hK _ _ _ _) (fun _ => hK _ _ _ _) _ | exact am_Le.ite (hK _ _ _ _) am_Le.no | exact am_Le.ite am_Le.no (hK _ _ _ _) | skip) | skip)
  all_goals (rcases st with _ | ⟨v2, st⟩ <;> first | exact am_Le.no | skip)
  all_goals (first | exact am_Le.ite (hK _ _ _ _) am_Le.no | (cases v2 <;> first | exact am_Le.no | exact hK _ _ _ _ | exact am_Le.br (hK _ _ _ _) (hK _ _ _ _) | exact am_Le.ite (hK _ _ _ _) am_Le.no | exact am_Le.ite am_Le.no (hK _ _ _ _) | exact am_Le.ite (am_Le.ite am_Le.no (hK _ _ _ _)) am_Le.no | exact am_Le.ite (am_Le.ite am_Le.no (am_Le.bq fun _ => hK _ _ _ _)) am_Le.no | skip) | skip)
  all_goals (rcases st with _ | ⟨v3, st⟩ <;> first | exact am_Le.no | skip)
  all_goals (cases v3 <;> first | exact am_Le.no | exact am_Le.ite (am_Le.ite am_Le.no (hK _ _ _ _)) am_Le.no | skip)
  all_goals (rcases st with _ | ⟨v4, st⟩ <;> first | exact am_Le.no | skip)
  all_goals (cases v4 <;> first | exact am_Le.no | skip)
  all_goals (rcases st with _ | ⟨v5, st⟩ <;> first | exact am_Le.no | skip)
  all_goals (cases v5 <;> first | exact am_Le.no | exact am_Le.ite (am_Le.ite am_Le.no (hK _ _ _ _)) am_Le.no)

theorem am_run_le {f f2 : Nat → List Value → am_S → am_R} (hf : ∀ z as S, am_Le (f z as S) (f2 z as S)) (m : Nat) : ∀ (n i : Nat) (lo st : List Value) (S : am_S), am_Le (am_run f m n i lo st S) (am_run f2 m n i lo st S)
  | 0, _, _, _, _ => am_Le.no
  | n + 1, _, _, _, _ => am_stp_le hf (am_run_le hf m n) _ _ _ _ _
end
section
/-! ===== Math.max and Math.min of longs: the words of their calls ===== -/
theorem am_mx_nm : pg_nm 272 = Lib.MathLoose.max_long.x := by first | rfl | decide +kernel
theorem am_mn_nm : pg_nm 273 = Lib.MathLoose.min_long.x := by first | rfl | decide +kernel
theorem am_mx_by : pg_by 272 = Lib.MathLoose.max_long.code := by first | rfl | decide +kernel
theorem am_mn_by : pg_by 273 = Lib.MathLoose.min_long.code := by first | rfl | decide +kernel
theorem am_mx_w {s : State} {args : Array Value} (hin : ∀ {w : Cond}, w ∈ lw_tbl → goodWord w = true → w.before args s = true) (hz : 272 ∈ pg_ys.flatten) {o q2 : Nat} (hm : (o, q2, 272) ∈ lk_m) : (Cond.methodLink (am_on o) q2 Lib.MathLoose.max_long.x).before args s = true ∧ (Cond.static Lib.MathLoose.max_long.x).before args s = true ∧ (Cond.initialized "java/lang/Math").before args s = true ∧ (Cond.code Lib.MathLoose.max_long.x Lib.MathLoose.max_long.code 4 (some .long)).before args s = true := by
  rw [← am_mx_nm, ← am_mx_by]
  exact ⟨hin (lk_m_ok _ hm) rfl, hin (pg_w_ok 272 hz _ (List.mem_cons_of_mem _ (List.mem_cons_of_mem _ List.mem_cons_self))) rfl, hin (pg_w_ok 272 hz _ (List.mem_cons_of_mem _ List.mem_cons_self)) rfl, hin (pg_w_ok 272 hz _ List.mem_cons_self) rfl⟩
theorem am_mn_w {s : State} {args : Array Value} (hin : ∀ {w : Cond}, w ∈ lw_tbl → goodWord w = true → w.before args s = true) (hz : 273 ∈ pg_ys.flatten) {o q2 : Nat} (hm : (o, q2, 273) ∈ lk_m) : (Cond.methodLink (am_on o) q2 Lib.MathLoose.min_long.x).before args s = true ∧ (Cond.static Lib.MathLoose.min_long.x).before args s = true ∧ (Cond.initialized "java/lang/Math").before args s = true ∧ (Cond.code Lib.MathLoose.min_long.x Lib.MathLoose.min_long.code 4 (some .long)).before args s = true := by
  rw [← am_mn_nm, ← am_mn_by]
  exact ⟨hin (lk_m_ok _ hm) rfl, hin (pg_w_ok 273 hz _ (List.mem_cons_of_mem _ (List.mem_cons_of_mem _ List.mem_cons_self))) rfl, hin (pg_w_ok 273 hz _ (List.mem_cons_of_mem _ List.mem_cons_self)) rfl, hin (pg_w_ok 273 hz _ List.mem_cons_self) rfl⟩
end
section
/-! ===== THE SMALL MACHINE'S RUN IS THE MACHINE'S (by program: wip/whole/gen/snd.py) ===== -/
theorem am_mono {f : Nat → List Value → am_S → am_R} (hf : ∀ z as S v S', f z as S = some (v, S') → am_n S ≤ am_n S' ∧ am_w S ≤ am_w S') (y : Nat) : ∀ (n i : Nat) (lo st : List Value) (S : am_S) (r : Option Value × am_S), am_run f y n i lo st S = some r → am_n S ≤ am_n r.2 ∧ am_w S ≤ am_w r.2
  | 0, _, _, _, _, _, h => am_noh h
  | n + 1, i, lo, st, S, r, h => by
    have rw1 : ∀ (a c m : Nat) (k p : Nat) (S : am_S), am_n S ≤ am_n (am_rows a c m k p S) ∧ am_w S ≤ am_w (am_rows a c m k p S) := by
      intro a c m k
      induction k with
      | zero => intro p S; exact ⟨Nat.le_refl _, Nat.le_refl _⟩
      | succ k ih =>
        intro p S
        have h1 := ih (p + 1) (am_pr (am_mk S c m) a p (am_n S))
        have e1 : am_n (am_pr (am_mk S c m) a p (am_n S)) = am_n S + 1 := rfl
        have e2 : am_w (am_pr (am_mk S c m) a p (am_n S)) = am_w S + m := rfl
        rw [e1, e2] at h1
        exact ⟨by have := h1.1; show am_n S ≤ am_n (am_rows a c m k (p + 1) _); omega, by have := h1.2; show am_w S ≤ am_w (am_rows a c m k (p + 1) _); omega⟩
    refine am_pres (Qr := fun T => am_n S ≤ am_n T ∧ am_w S ≤ am_w T) (G := fun T => am_n S ≤ am_n T ∧ am_w S ≤ am_w T) (K := am_run f y n) (f := f) (al := true) (fun i' lo' st' S' hS' r' h' => ?_) ⟨Nat.le_refl _, Nat.le_refl _⟩ ⟨Nat.le_refl _, Nat.le_refl _⟩ (fun _ _ _ => ⟨Nat.le_refl _, Nat.le_refl _⟩) (fun _ _ _ => ⟨Nat.le_refl _, Nat.le_refl _⟩) (fun _ _ _ _ _ => ⟨Nat.le_refl _, Nat.le_refl _⟩) (fun _ _ _ _ => ⟨Nat.le_refl _, Nat.le_refl _⟩) (fun _ c m => ⟨Nat.le_succ _, Nat.le_add_right _ _⟩) (fun _ c1 n1 c m => ?_) (fun z as v S' h' => hf z as S v S' h') (pg_cd y i) (fun _ => rfl) i (am_kil y i lo) st r h
    · have := am_mono hf y n i' lo' st' S' r' h'
      exact ⟨Nat.le_trans hS'.1 this.1, Nat.le_trans hS'.2 this.2⟩
    · have := rw1 (am_n S) c m n1 0 (am_mk S c1 n1)
      exact ⟨Nat.le_trans (Nat.le_succ _) this.1, Nat.le_trans (Nat.le_add_right _ _) this.2⟩
section SND
variable {p : Program} {l : Launch} {e : Env} {R : Room} {s : State} {m : MethodId} {args : Array Value} {below : List Frame} {meth : Method} {c : Code} {Q : State → Prop}
variable {A : Nat → Prop} {D : va_G} {dA : Nat → ClassId} {adV : Nat → Nat} {L : Nat} {xs : Nat → Int32}
/-- an array's kind: its place among the tables' arrays -/
theorem am_kty {k : Nat} (hk : am_vk k) (h : 103 ≤ k) : ∃ (t0 : Nat) (ty : FieldType), (am_tys dA)[t0]? = some (dA k, ty) ∧ ty.isReference = true ∧ (∀ v, k = 103 + v → v < 13 → ty = .object (am_on v)) := by
  unfold am_vk at hk
  rcases hk with h1 | rfl | rfl | rfl | rfl | rfl | rfl | rfl | rfl | rfl
  · omega
  · omega
  · omega
  · omega
  · exact ⟨3, _, rfl, rfl, fun v e _ => by obtain rfl : v = 1 := by omega
                                           rfl⟩
  · exact ⟨4, _, rfl, rfl, fun v e _ => by obtain rfl : v = 2 := by omega
                                           rfl⟩
  · exact ⟨5, _, rfl, rfl, fun v e _ => by obtain rfl : v = 7 := by omega
                                           rfl⟩
  · exact ⟨6, _, rfl, rfl, fun v e _ => by obtain rfl : v = 9 := by omega
                                           rfl⟩
  · exact ⟨7, _, rfl, rfl, fun v e _ => by omega⟩
  · exact ⟨8, _, rfl, rfl, fun v e _ => by omega⟩
theorem am_kt1 {k : Nat} (hk : am_vk k) (h : 100 ≤ k) : ∃ (t0 : Nat) (ty : FieldType), (am_tys dA)[t0]? = some (dA k, ty) := by
  unfold am_vk at hk
  rcases hk with h1 | rfl | rfl | rfl | rfl | rfl | rfl | rfl | rfl | rfl
  · omega
  · exact ⟨0, _, rfl⟩
  · exact ⟨1, _, rfl⟩
  · exact ⟨2, _, rfl⟩
  · exact ⟨3, _, rfl⟩
  · exact ⟨4, _, rfl⟩
  · exact ⟨5, _, rfl⟩
  · exact ⟨6, _, rfl⟩
  · exact ⟨7, _, rfl⟩
  · exact ⟨8, _, rfl⟩
set_option maxHeartbeats 16000000 in
set_option maxRecDepth 100000 in
theorem am_go {y : Nat} (hC : am_Cx p s m args meth c A D dA y) (hchk : am_chk y = true) {f : Nat → List Value → am_S → am_R} {d : Nat} (hf : ∀ z as S v S', f z as S = some (v, S') → am_M l d z as S v S') (hmo : ∀ z as S v S', f z as S = some (v, S') → am_n S ≤ am_n S' ∧ am_w S ≤ am_w S')
    (hnc : ∀ z as S v S', am_cok z true = true ∨ (am_cok z false = true ∧ ((pg_nm z).name != "<init>") = true) → f z as S = some (v, S') → am_n S' = am_n S)
    (hrc : ∀ z as S v S', f z as S = some (v, S') → pg_is z = false → ∃ b As, as = .ref b :: As ∧ am_c S b = pg_ow z)
    (hL31 : L < 2 ^ 31) (hstr : am_Str l) (hR1 : d + 9 ≤ R.frames) (hR2 : 64 * (d + 9) ≤ R.locals) {r : Option Value × am_S} {n0 w0 : Nat} (hRc : am_n r.2 - n0 ≤ R.cells) (hRs : am_w r.2 - w0 ≤ R.slots) {ad0 : Nat → Nat}
    (hI : ∀ pc ad H locs ls lo x, decode (pg_by y) pc = .ok (.ireturn, 1) → pg_rt y = some .int → r.1 = some (.int x) → am_ag n0 ad0 ad → am_Pt s A D dA adV L xs y ad r.2 H locs ls lo → W p l e R s m args below meth c H locs (am_n r.2 - n0) (am_w r.2 - w0) Q (F0 m pc ls [.int x]))
    (hZ : ∀ pc ad H locs ls lo x, decode (pg_by y) pc = .ok (.ireturn, 1) → pg_rt y = some .boolean → (x = 0 ∨ x = 1) → r.1 = some (.int x) → am_ag n0 ad0 ad → am_Pt s A D dA adV L xs y ad r.2 H locs ls lo → W p l e R s m args below meth c H locs (am_n r.2 - n0) (am_w r.2 - w0) Q (F0 m pc ls [.int x]))
    (hJ : ∀ pc ad H locs ls lo x, decode (pg_by y) pc = .ok (.lreturn, 1) → pg_rt y = some .long → r.1 = some (.long x) → am_ag n0 ad0 ad → am_Pt s A D dA adV L xs y ad r.2 H locs ls lo → W p l e R s m args below meth c H locs (am_n r.2 - n0) (am_w r.2 - w0) Q (F0 m pc ls [.long x]))
    (hO : ∀ pc ad H locs ls lo x, decode (pg_by y) pc = .ok (.areturn, 1) → (∃ t, pg_rt y = some (.object t)) → 2000000 ≤ x → r.1 = some (.ref x) → am_ag n0 ad0 ad → am_Pt s A D dA adV L xs y ad r.2 H locs ls lo → W p l e R s m args below meth c H locs (am_n r.2 - n0) (am_w r.2 - w0) Q (F0 m pc ls [.ref (ad x)]))
    (hV : ∀ pc ad H locs ls lo, decode (pg_by y) pc = .ok (.return_, 1) → pg_rt y = none → r.1 = none → am_ag n0 ad0 ad → am_Pt s A D dA adV L xs y ad r.2 H locs ls lo → W p l e R s m args below meth c H locs (am_n r.2 - n0) (am_w r.2 - w0) Q (F0 m pc ls [])) :
    ∀ (n i : Nat) (lo st : List Value) (S : am_S), am_run f y n i lo st S = some r → ∀ (pc : Nat) (ad : Nat → Nat) (H : Heap) (locs : List Loc) (ls : Array Slot), pc = am_P y i → n0 ≤ am_n S → w0 ≤ am_w S → am_ag n0 ad0 ad → am_Pt s A D dA adV L xs y ad S H locs ls lo →
      W p l e R s m args below meth c H locs (am_n S - n0) (am_w S - w0) Q (F0 m pc ls (st.map (am_tr ad))) := by
  obtain ⟨hx, hb, hml, hown, hts, hK, hNW, hA, hnm⟩ := id hC
  have hin : ∀ {w : Cond}, w ∈ lw_tbl → goodWord w = true → w.before args s = true := fun h1 h2 => hts _ (lw_gw_in h1 h2)
  intro n
  induction n with
  | zero => intro i lo st S h; exact am_noh h
  | succ n ih =>
    intro i lo st S h pc ad H locs ls hpc hn0 hw0 hag hPt
    subst hpc
    obtain ⟨hP, hD, hS, hIv, hE, hl⟩ := hPt
    replace h : am_stp f (am_run f y n) (pg_cd y i) i (am_kil y i lo) st S = some r := h
    replace hl := hl.kil y i
    generalize am_kil y i lo = lo at h hl
    have go : ∀ {i' : Nat} {lo' st' : List Value} {S' : am_S} {pc' : Nat} {ad' : Nat → Nat} {H' : Heap} {locs' : List Loc} {ls' : Array Slot}, am_run f y n i' lo' st' S' = some r → pc' = am_P y i' → am_n S ≤ am_n S' → am_w S ≤ am_w S' → am_ag (am_n S) ad ad' → va_P D vwCl (am_wd dA ad' S') H' → va_D A (am_wd dA ad' S') → va_S A s.heap H' locs' → am_Iv L xs S' → am_has ad' ls' (pg_mx y) lo' →
        W p l e R s m args below meth c H' locs' (am_n S' - n0) (am_w S' - w0) Q (F0 m pc' ls' (st'.map (am_tr ad'))) :=
      fun h1 h2 h3 h4 h5 h6 h7 h8 h9 h10 => ih _ _ _ _ h1 _ _ _ _ _ h2 (Nat.le_trans hn0 h3) (Nat.le_trans hw0 h4) (hag.tr h5 hn0) ⟨h6, h7, h8, h9, hE.ag h5, h10⟩
    have gos : ∀ {i' : Nat} {lo' st' : List Value} {pc' : Nat} {ls' : Array Slot}, am_run f y n i' lo' st' S = some r → pc' = am_P y i' → am_has ad ls' (pg_mx y) lo' →
        W p l e R s m args below meth c H locs (am_n S - n0) (am_w S - w0) Q (F0 m pc' ls' (st'.map (am_tr ad))) :=
      fun h1 h2 h3 => go h1 h2 (Nat.le_refl _) (Nat.le_refl _) am_ag.rf hP hD hS hIv h3
    have hPt' : am_Pt s A D dA adV L xs y ad S H locs ls lo := ⟨hP, hD, hS, hIv, hE, hl⟩
    by_cases hnop : pg_cd y i = .nop
    · rw [hnop] at h; exact am_noh h
    obtain ⟨hd, hk, he⟩ := am_chk_f hchk rfl hnop
    generalize pg_cd y i = ins at h hd hk he
    generalize am_q y i = q at hd hk he
    obtain ⟨q1, q2⟩ := q
    replace he := he.symm
    cases ins
    case iconst v =>
      obtain ⟨hk0, hk1⟩ := Bool.and_eq_true_iff.mp hk
      have hk0 := of_decide_eq_true hk0
      rcases q1 with _ | _ | _ | _ | q1
      · refine lv_iconst (v := nI v.toNat) hx hb hd (am_of1 hk0) ?_
        exact gos h he hl
      · have hk1 := of_decide_eq_true hk1
        refine lv_bipush (v := nI v.toNat) hx hb hd ((am_of8 (by omega) (by omega)).trans (am_of1 hk0)) ?_
        exact gos h he hl
      · have hk1 := of_decide_eq_true hk1
        refine lv_sipush (v := nI v.toNat) hx hb hd ((am_of16 (by omega) (by omega)).trans (am_of1 hk0)) ?_
        exact gos h he hl
      · have hc := hin (lk_c_ok (pg_ow y, q2, v) (by simpa using hk1)) rfl
        refine lv_ldc (v := nI v.toNat) hx hb hown (am_of1 hk0 ▸ hc) hd ?_
        exact gos h he hl
      · have hc := hin (lk_c_ok (pg_ow y, q2, v) (by simpa using hk1)) rfl
        refine lv_ldcw (v := nI v.toNat) hx hb hown (am_of1 hk0 ▸ hc) hd ?_
        exact gos h he hl
    case bipush v =>
      obtain ⟨hk0, hk1⟩ := Bool.and_eq_true_iff.mp hk
      have hk0 := of_decide_eq_true hk0
      rcases q1 with _ | _ | _ | _ | q1
      · refine lv_iconst (v := Int32.ofInt v) hx hb hd (rfl) ?_
        exact gos h he hl
      · have hk1 := of_decide_eq_true hk1
        refine lv_bipush (v := Int32.ofInt v) hx hb hd (am_of8 (by omega) (by omega)) ?_
        exact gos h he hl
      · have hk1 := of_decide_eq_true hk1
        refine lv_sipush (v := Int32.ofInt v) hx hb hd (am_of16 (by omega) (by omega)) ?_
        exact gos h he hl
      · have hc := hin (lk_c_ok (pg_ow y, q2, v) (by simpa using hk1)) rfl
        refine lv_ldc (v := Int32.ofInt v) hx hb hown (hc) hd ?_
        exact gos h he hl
      · have hc := hin (lk_c_ok (pg_ow y, q2, v) (by simpa using hk1)) rfl
        refine lv_ldcw (v := Int32.ofInt v) hx hb hown (hc) hd ?_
        exact gos h he hl
    case goto_w v =>
      obtain ⟨hk0, hk1⟩ := Bool.and_eq_true_iff.mp hk
      have hk0 := of_decide_eq_true hk0
      rcases q1 with _ | q1
      · have hk1 := of_decide_eq_true hk1
        refine lv_lconst (v := lN v.toNat) hx hb hd ?_ ?_
        · show Int64.ofNat (v.toNat % 2) = Int64.ofNat v.toNat
          rw [Nat.mod_eq_of_lt (by omega)]
        · exact gos h he hl
      · have hc := hin (lk_l_ok (pg_ow y, q2, v) (by simpa using hk1)) rfl
        refine lv_ldc2 (v := lN v.toNat) hx hb hown (am_of1L hk0 ▸ hc) hd ?_
        exact gos h he hl
    case jsr_w v =>
      have hk : lk_l.contains (pg_ow y, q2, v) = true := hk
      have hc := hin (lk_l_ok (pg_ow y, q2, v) (by simpa using hk)) rfl
      refine lv_ldc2 (v := Int64.ofInt v) hx hb hown hc hd ?_
      exact gos h he hl
    case ldc k =>
      have hk : lk_s.contains (pg_ow y, q2, k) = true := hk
      have hm : (pg_ow y, q2, k) ∈ lk_s := am_mem_lk hk
      refine va_ldcS hx hb hown (hE.2.2.2.1 _ hm) hd ?_
      exact gos h he hl
    case getstatic k =>
      obtain ⟨hk0, hk1⟩ := Bool.and_eq_true_iff.mp hk
      have hk1 := of_decide_eq_true hk1
      have hk0 : lk_g.contains (pg_ow y, q2, k) = true := hk0
      have hm : (pg_ow y, q2, k) ∈ lk_g := am_mem_lk hk0
      have hc := hin (lk_g_ok _ hm) rfl
      have hk4 : k < 4 := lk_g_4 _ hm
      refine va_gets hx hb (hE.1 k hk4) hS hown hc (fun _ h9 => h9) hd ?_
      exact gos h he hl
    case iload k =>
      have h : (match am_nth lo k with | .int x => am_run f y n (i + 1) lo (.int x :: st) S | _ => none) = some r := h
      cases hv : am_nth lo k <;> rw [hv] at h
      case int x =>
        have ha := hl.at hv (by intro z; cases z)
        rcases q1 with _ | q1
        · refine lv_iload hx hb hd ha ?_
          exact gos h he hl
        · have hk := of_decide_eq_true hk
          refine lv_iload_n hx hb hd (i := k) (by show k % 4 = k; omega) ha ?_
          exact gos h he hl
      all_goals exact am_noh h
    case lload k =>
      have h : (match am_nth lo k with | .long x => am_run f y n (i + 1) lo (.long x :: st) S | _ => none) = some r := h
      cases hv : am_nth lo k <;> rw [hv] at h
      case long x =>
        have ha := hl.at hv (by intro z; cases z)
        rcases q1 with _ | q1
        · refine lv_lload hx hb hd ha ?_
          exact gos h he hl
        · have hk := of_decide_eq_true hk
          refine lv_lload_n hx hb hd (i := k) (by show k % 4 = k; omega) ha ?_
          exact gos h he hl
      all_goals exact am_noh h
    case aload k =>
      have h : (match am_nth lo k with | .ref x => am_run f y n (i + 1) lo (.ref x :: st) S | _ => none) = some r := h
      cases hv : am_nth lo k <;> rw [hv] at h
      case ref x =>
        have ha := hl.at hv (by intro z; cases z)
        rcases q1 with _ | q1
        · refine lv_aload hx hb hd ha ?_
          exact gos h he hl
        · have hk := of_decide_eq_true hk
          refine lv_aload_n hx hb hd (i := k) (by show k % 4 = k; omega) ha ?_
          exact gos h he hl
      all_goals exact am_noh h
    case istore k =>
      rcases st with _ | ⟨v0, st⟩
      · exact am_noh h
      · cases v0
        case int x =>
          have hk := of_decide_eq_true hk
          rcases q1 with _ | q1
          · refine lv_istore (i := k) hx hb hd hl.lv (by omega) rfl (fun ls2 hl2 => ?_)
            exact gos h he (am_has.s1 (v0 := .int x) hl.2.2.2 hl2)
          · refine lv_istore_n (i := k) hx hb hd (by show k % 4 = k; omega) hl.lv (by omega) rfl (fun ls2 hl2 => ?_)
            exact gos h he (am_has.s1 (v0 := .int x) hl.2.2.2 hl2)
        all_goals exact am_noh h
    case astore k =>
      rcases st with _ | ⟨v0, st⟩
      · exact am_noh h
      · cases v0
        case ref x =>
          have hk := of_decide_eq_true hk
          rcases q1 with _ | q1
          · refine lv_astore (i := k) hx hb hd hl.lv (by omega) rfl (fun ls2 hl2 => ?_)
            exact gos h he (am_has.s1 (v0 := .ref x) hl.2.2.2 hl2)
          · refine lv_astore_n (i := k) hx hb hd (by show k % 4 = k; omega) hl.lv (by omega) rfl (fun ls2 hl2 => ?_)
            exact gos h he (am_has.s1 (v0 := .ref x) hl.2.2.2 hl2)
        all_goals exact am_noh h
    case lstore k =>
      rcases st with _ | ⟨v0, st⟩
      · exact am_noh h
      · cases v0
        case long x =>
          have hk := of_decide_eq_true hk
          have hlen : k + 1 < lo.length := by rw [hl.2.2.2]; omega
          rcases q1 with _ | q1
          · refine lv_lstore (i := k) hx hb hd hl.lv (by omega) rfl (fun ls2 hl2 => ?_)
            exact gos h he (am_has.s2 (v0 := .long x) hl.2.2.2 hlen hl2)
          · refine lv_lstore_n (i := k) hx hb hd (by show k % 4 = k; omega) hl.lv (by omega) rfl (fun ls2 hl2 => ?_)
            exact gos h he (am_has.s2 (v0 := .long x) hl.2.2.2 hlen hl2)
        all_goals exact am_noh h
    case iinc k cc =>
      have hk := of_decide_eq_true hk
      have h : (match am_nth lo k with | .int x => am_run f y n (i + 1) (am_s1 lo k (.int (am_inc x cc))) st S | _ => none) = some r := h
      cases hv : am_nth lo k <;> rw [hv] at h
      case int x =>
        obtain ⟨k0, hk0⟩ := List.getElem?_of_mem (am_prs_of (ad := ad) (lo := lo) (k := k) (by rw [hv]; intro z; cases z))
        rw [hv] at hk0
        refine lv_iinc (k := k0) (v := am_inc x cc) hx hb hd hl.lv hk0 (am_inc_eq x cc) (by omega) rfl (fun ls2 hl2 => ?_)
        exact gos h he (am_has.s1 (v0 := .int (am_inc x cc)) hl.2.2.2 hl2)
      all_goals exact am_noh h
    case iadd =>
      rcases st with _ | ⟨v0, st⟩
      · exact am_noh h
      · cases v0
        case int yv =>
          rcases st with _ | ⟨v1, st⟩
          · exact am_noh h
          · cases v1
            case int xv =>
              refine lv_iadd hx hb hd ?_
              exact gos h he hl
            all_goals exact am_noh h
        all_goals exact am_noh h
    case isub =>
      rcases st with _ | ⟨v0, st⟩
      · exact am_noh h
      · cases v0
        case int yv =>
          rcases st with _ | ⟨v1, st⟩
          · exact am_noh h
          · cases v1
            case int xv =>
              refine lv_isub hx hb hd ?_
              exact gos h he hl
            all_goals exact am_noh h
        all_goals exact am_noh h
    case imul =>
      rcases st with _ | ⟨v0, st⟩
      · exact am_noh h
      · cases v0
        case int yv =>
          rcases st with _ | ⟨v1, st⟩
          · exact am_noh h
          · cases v1
            case int xv =>
              refine lv_imul hx hb hd ?_
              exact gos h he hl
            all_goals exact am_noh h
        all_goals exact am_noh h
    case iand =>
      rcases st with _ | ⟨v0, st⟩
      · exact am_noh h
      · cases v0
        case int yv =>
          rcases st with _ | ⟨v1, st⟩
          · exact am_noh h
          · cases v1
            case int xv =>
              refine lv_iand hx hb hd ?_
              exact gos h he hl
            all_goals exact am_noh h
        all_goals exact am_noh h
    case ior =>
      rcases st with _ | ⟨v0, st⟩
      · exact am_noh h
      · cases v0
        case int yv =>
          rcases st with _ | ⟨v1, st⟩
          · exact am_noh h
          · cases v1
            case int xv =>
              refine lv_ior hx hb hd ?_
              exact gos h he hl
            all_goals exact am_noh h
        all_goals exact am_noh h
    case ixor =>
      rcases st with _ | ⟨v0, st⟩
      · exact am_noh h
      · cases v0
        case int yv =>
          rcases st with _ | ⟨v1, st⟩
          · exact am_noh h
          · cases v1
            case int xv =>
              refine lv_ixor hx hb hd ?_
              exact gos h he hl
            all_goals exact am_noh h
        all_goals exact am_noh h
    case ishl =>
      rcases st with _ | ⟨v0, st⟩
      · exact am_noh h
      · cases v0
        case int yv =>
          rcases st with _ | ⟨v1, st⟩
          · exact am_noh h
          · cases v1
            case int xv =>
              refine lv_ishl hx hb hd ?_
              exact gos h he hl
            all_goals exact am_noh h
        all_goals exact am_noh h
    case ishr =>
      rcases st with _ | ⟨v0, st⟩
      · exact am_noh h
      · cases v0
        case int yv =>
          rcases st with _ | ⟨v1, st⟩
          · exact am_noh h
          · cases v1
            case int xv =>
              refine lv_ishr hx hb hd ?_
              exact gos h he hl
            all_goals exact am_noh h
        all_goals exact am_noh h
    case ladd =>
      rcases st with _ | ⟨v0, st⟩
      · exact am_noh h
      · cases v0
        case long yv =>
          rcases st with _ | ⟨v1, st⟩
          · exact am_noh h
          · cases v1
            case long xv =>
              refine lv_ladd hx hb hd ?_
              exact gos h he hl
            all_goals exact am_noh h
        all_goals exact am_noh h
    case lsub =>
      rcases st with _ | ⟨v0, st⟩
      · exact am_noh h
      · cases v0
        case long yv =>
          rcases st with _ | ⟨v1, st⟩
          · exact am_noh h
          · cases v1
            case long xv =>
              refine lv_lsub hx hb hd ?_
              exact gos h he hl
            all_goals exact am_noh h
        all_goals exact am_noh h
    case lmul =>
      rcases st with _ | ⟨v0, st⟩
      · exact am_noh h
      · cases v0
        case long yv =>
          rcases st with _ | ⟨v1, st⟩
          · exact am_noh h
          · cases v1
            case long xv =>
              refine lv_lmul hx hb hd ?_
              exact gos h he hl
            all_goals exact am_noh h
        all_goals exact am_noh h
    case land =>
      rcases st with _ | ⟨v0, st⟩
      · exact am_noh h
      · cases v0
        case long yv =>
          rcases st with _ | ⟨v1, st⟩
          · exact am_noh h
          · cases v1
            case long xv =>
              refine lv_land hx hb hd ?_
              exact gos h he hl
            all_goals exact am_noh h
        all_goals exact am_noh h
    case lor =>
      rcases st with _ | ⟨v0, st⟩
      · exact am_noh h
      · cases v0
        case long yv =>
          rcases st with _ | ⟨v1, st⟩
          · exact am_noh h
          · cases v1
            case long xv =>
              refine lv_lor hx hb hd ?_
              exact gos h he hl
            all_goals exact am_noh h
        all_goals exact am_noh h
    case i2f =>
      rcases st with _ | ⟨v0, st⟩
      · exact am_noh h
      · cases v0
        case long yv =>
          rcases st with _ | ⟨v1, st⟩
          · exact am_noh h
          · cases v1
            case long xv =>
              have h : (if am_cat st ≤ 8 then am_run f y n (i + 1) lo (.long (if yv < xv then xv else yv) :: st) S else none) = some r := h
              by_cases hc : am_cat st ≤ 8
              case neg => rw [if_neg hc] at h; exact am_noh h
              rw [if_pos hc] at h
              have hk : lk_m.contains (pg_ow y, q2, 272) = true := hk
              have hm : (pg_ow y, q2, 272) ∈ lk_m := by simpa using hk
              have hmn := am_mono hmo y _ _ _ _ _ _ h
              have hz : 272 ∈ pg_ys.flatten := by decide +kernel
              obtain ⟨w1, w2, w3, w4⟩ := am_mx_w hin hz hm
              refine va_mmax_long hx hb (hml.trans hl.1.symm) hown w1 w2 w3 w4 (by clear hz; omega) (by rw [am_cat_tr]; clear hz; omega) (by clear hz; omega) (by clear hz; omega) hd ?_
              exact gos h he hl
            all_goals exact am_noh h
        all_goals exact am_noh h
    case i2d =>
      rcases st with _ | ⟨v0, st⟩
      · exact am_noh h
      · cases v0
        case long yv =>
          rcases st with _ | ⟨v1, st⟩
          · exact am_noh h
          · cases v1
            case long xv =>
              have h : (if am_cat st ≤ 8 then am_run f y n (i + 1) lo (.long (if yv < xv then yv else xv) :: st) S else none) = some r := h
              by_cases hc : am_cat st ≤ 8
              case neg => rw [if_neg hc] at h; exact am_noh h
              rw [if_pos hc] at h
              have hk : lk_m.contains (pg_ow y, q2, 273) = true := hk
              have hm : (pg_ow y, q2, 273) ∈ lk_m := by simpa using hk
              have hmn := am_mono hmo y _ _ _ _ _ _ h
              have hz : 273 ∈ pg_ys.flatten := by decide +kernel
              obtain ⟨w1, w2, w3, w4⟩ := am_mn_w hin hz hm
              refine va_mmin_long hx hb (hml.trans hl.1.symm) hown w1 w2 w3 w4 (by clear hz; omega) (by rw [am_cat_tr]; clear hz; omega) (by clear hz; omega) (by clear hz; omega) hd ?_
              exact gos h he hl
            all_goals exact am_noh h
        all_goals exact am_noh h
    case iushr =>
      rcases st with _ | ⟨v0, st⟩
      · exact am_noh h
      · cases v0
        case int yv =>
          rcases st with _ | ⟨v1, st⟩
          · exact am_noh h
          · cases v1
            case int xv =>
              refine lv_iushr hx hb hd rfl ?_
              exact gos h he hl
            all_goals exact am_noh h
        all_goals exact am_noh h
    case lshl =>
      rcases st with _ | ⟨v0, st⟩
      · exact am_noh h
      · cases v0
        case int yv =>
          rcases st with _ | ⟨v1, st⟩
          · exact am_noh h
          · cases v1
            case long xv =>
              refine lv_lshl hx hb hd rfl ?_
              exact gos h he hl
            all_goals exact am_noh h
        all_goals exact am_noh h
    case lshr =>
      rcases st with _ | ⟨v0, st⟩
      · exact am_noh h
      · cases v0
        case int yv =>
          rcases st with _ | ⟨v1, st⟩
          · exact am_noh h
          · cases v1
            case long xv =>
              refine lv_lshr hx hb hd rfl ?_
              exact gos h he hl
            all_goals exact am_noh h
        all_goals exact am_noh h
    case lushr =>
      rcases st with _ | ⟨v0, st⟩
      · exact am_noh h
      · cases v0
        case int yv =>
          rcases st with _ | ⟨v1, st⟩
          · exact am_noh h
          · cases v1
            case long xv =>
              refine lv_lushr hx hb hd rfl ?_
              exact gos h he hl
            all_goals exact am_noh h
        all_goals exact am_noh h
    case idiv =>
      rcases st with _ | ⟨v0, st⟩
      · exact am_noh h
      · cases v0
        case int yv =>
          rcases st with _ | ⟨v1, st⟩
          · exact am_noh h
          · cases v1
            case int xv =>
              have h : (if yv = 0 then none else am_run f y n (i + 1) lo (.int (xv / yv) :: st) S) = some r := h
              by_cases hz : yv = 0
              · rw [if_pos hz] at h; exact am_noh h
              · rw [if_neg hz] at h
                refine lv_idiv hx hb hd hz ?_
                exact gos h he hl
            all_goals exact am_noh h
        all_goals exact am_noh h
    case irem =>
      rcases st with _ | ⟨v0, st⟩
      · exact am_noh h
      · cases v0
        case int yv =>
          rcases st with _ | ⟨v1, st⟩
          · exact am_noh h
          · cases v1
            case int xv =>
              have h : (if yv = 0 then none else am_run f y n (i + 1) lo (.int (xv - xv / yv * yv) :: st) S) = some r := h
              by_cases hz : yv = 0
              · rw [if_pos hz] at h; exact am_noh h
              · rw [if_neg hz] at h
                refine lv_irem hx hb hd hz ?_
                exact gos h he hl
            all_goals exact am_noh h
        all_goals exact am_noh h
    case ldiv =>
      rcases st with _ | ⟨v0, st⟩
      · exact am_noh h
      · cases v0
        case long yv =>
          rcases st with _ | ⟨v1, st⟩
          · exact am_noh h
          · cases v1
            case long xv =>
              have h : (if yv = 0 then none else am_run f y n (i + 1) lo (.long (xv / yv) :: st) S) = some r := h
              by_cases hz : yv = 0
              · rw [if_pos hz] at h; exact am_noh h
              · rw [if_neg hz] at h
                refine lv_ldiv hx hb hd hz ?_
                exact gos h he hl
            all_goals exact am_noh h
        all_goals exact am_noh h
    case lrem =>
      rcases st with _ | ⟨v0, st⟩
      · exact am_noh h
      · cases v0
        case long yv =>
          rcases st with _ | ⟨v1, st⟩
          · exact am_noh h
          · cases v1
            case long xv =>
              have h : (if yv = 0 then none else am_run f y n (i + 1) lo (.long (xv - xv / yv * yv) :: st) S) = some r := h
              by_cases hz : yv = 0
              · rw [if_pos hz] at h; exact am_noh h
              · rw [if_neg hz] at h
                refine lv_lrem hx hb hd hz ?_
                exact gos h he hl
            all_goals exact am_noh h
        all_goals exact am_noh h
    case lneg =>
      rcases st with _ | ⟨v0, st⟩
      · exact am_noh h
      · cases v0
        case long xv =>
          refine lv_lneg hx hb hd ?_
          exact gos h he hl
        all_goals exact am_noh h
    case lcmp =>
      rcases st with _ | ⟨v0, st⟩
      · exact am_noh h
      · cases v0
        case long yv =>
          rcases st with _ | ⟨v1, st⟩
          · exact am_noh h
          · cases v1
            case long xv =>
              refine W.lcmp hx hb hd ?_
              exact gos h he hl
            all_goals exact am_noh h
        all_goals exact am_noh h
    case i2l =>
      rcases st with _ | ⟨v0, st⟩
      · exact am_noh h
      · cases v0
        case int xv =>
          refine lv_i2l hx hb hd rfl ?_
          exact gos h he hl
        all_goals exact am_noh h
    case l2i =>
      rcases st with _ | ⟨v0, st⟩
      · exact am_noh h
      · cases v0
        case long xv =>
          refine lv_l2i hx hb hd rfl ?_
          exact gos h he hl
        all_goals exact am_noh h
    case i2b =>
      rcases st with _ | ⟨v0, st⟩
      · exact am_noh h
      · cases v0
        case int xv =>
          refine lv_i2b hx hb hd rfl ?_
          exact gos h he hl
        all_goals exact am_noh h
    case i2s =>
      rcases st with _ | ⟨v0, st⟩
      · exact am_noh h
      · cases v0
        case int xv =>
          refine lv_i2s hx hb hd rfl ?_
          exact gos h he hl
        all_goals exact am_noh h
    case dup =>
      rcases st with _ | ⟨v, st⟩
      · exact am_noh h
      · have h : (if v.category = 1 then am_run f y n (i + 1) lo (v :: v :: st) S else none) = some r := h
        by_cases hz : v.category = 1
        · rw [if_pos hz] at h
          refine lv_dup hx hb hd (by rw [am_tr_cat]; exact hz) ?_
          exact gos h he hl
        · rw [if_neg hz] at h; exact am_noh h
    case dup2 =>
      rcases st with _ | ⟨v, _ | ⟨w, st⟩⟩
      · exact am_noh h
      · exact am_noh h
      · have h : (if v.category = 1 ∧ w.category = 1 then am_run f y n (i + 1) lo (v :: w :: v :: w :: st) S else none) = some r := h
        by_cases hz : v.category = 1 ∧ w.category = 1
        · rw [if_pos hz] at h
          refine lv_dup2_11 hx hb hd (by rw [am_tr_cat]; first | exact hz.1 | exact hz.2) (by rw [am_tr_cat]; first | exact hz.2 | exact hz.1) ?_
          exact gos h he hl
        · rw [if_neg hz] at h; exact am_noh h
    case pop =>
      rcases st with _ | ⟨v, st⟩
      · exact am_noh h
      · have h : (if v.category = 1 then am_run f y n (i + 1) lo st S else none) = some r := h
        by_cases hz : v.category = 1
        · rw [if_pos hz] at h
          refine lv_pop hx hb hd (by rw [am_tr_cat]; exact hz) ?_
          exact gos h he hl
        · rw [if_neg hz] at h; exact am_noh h
    case goto t =>
      refine lv_goto (tgt := am_P y t.toNat) hx hb hd (by omega) ?_
      exact gos h rfl hl
    case if_icmp cd t =>
      have hk := of_decide_eq_true hk
      rcases st with _ | ⟨v0, st⟩
      · exact am_noh h
      · cases v0
        case int yv =>
          rcases st with _ | ⟨v1, st⟩
          · exact am_noh h
          · cases v1
            case int xv =>
              cases cd
              case eq =>
                have h : (if xv = yv then am_run f y n t.toNat lo st S else am_run f y n (i + 1) lo st S) = some r := h
                refine lv_icmp_eq (tgt := am_P y t.toNat) hx hb hd (by omega) (fun hc => ?_) (fun hc => ?_)
                · rw [if_pos (by first | exact hc | (simpa using hc))] at h; exact gos h rfl hl
                · rw [if_neg (by first | exact hc | (simpa using hc))] at h; exact gos h he hl
              case ne =>
                have h : (if xv = yv then am_run f y n (i + 1) lo st S else am_run f y n t.toNat lo st S) = some r := h
                refine lv_icmp_ne (tgt := am_P y t.toNat) hx hb hd (by omega) (fun hc => ?_) (fun hc => ?_)
                · rw [if_neg (by first | exact hc | (simpa using hc))] at h; exact gos h rfl hl
                · rw [if_pos (by first | exact hc | (simpa using hc) | exact Decidable.not_not.mp hc)] at h; exact gos h he hl
              case lt =>
                have h : (if xv < yv then am_run f y n t.toNat lo st S else am_run f y n (i + 1) lo st S) = some r := h
                refine lv_icmp_lt (tgt := am_P y t.toNat) hx hb hd (by omega) (fun hc => ?_) (fun hc => ?_)
                · rw [if_pos (by first | exact hc | (simpa using hc))] at h; exact gos h rfl hl
                · rw [if_neg (by first | exact hc | (simpa using hc))] at h; exact gos h he hl
              case ge =>
                have h : (if xv < yv then am_run f y n (i + 1) lo st S else am_run f y n t.toNat lo st S) = some r := h
                refine lv_icmp_ge (tgt := am_P y t.toNat) hx hb hd (by omega) (fun hc => ?_) (fun hc => ?_)
                · rw [if_neg (by first | exact Int32.not_lt.mpr hc | (simpa using hc))] at h; exact gos h rfl hl
                · rw [if_pos (by first | exact Int32.not_le.mp hc | (simpa using hc))] at h; exact gos h he hl
              case gt =>
                have h : (if yv < xv then am_run f y n t.toNat lo st S else am_run f y n (i + 1) lo st S) = some r := h
                refine lv_icmp_gt (tgt := am_P y t.toNat) hx hb hd (by omega) (fun hc => ?_) (fun hc => ?_)
                · rw [if_pos (by first | exact hc | (simpa using hc))] at h; exact gos h rfl hl
                · rw [if_neg (by first | exact hc | (simpa using hc))] at h; exact gos h he hl
              case le =>
                have h : (if yv < xv then am_run f y n (i + 1) lo st S else am_run f y n t.toNat lo st S) = some r := h
                refine lv_icmp_le (tgt := am_P y t.toNat) hx hb hd (by omega) (fun hc => ?_) (fun hc => ?_)
                · rw [if_neg (by first | exact Int32.not_lt.mpr hc | (simpa using hc))] at h; exact gos h rfl hl
                · rw [if_pos (by first | exact Int32.not_le.mp hc | (simpa using hc))] at h; exact gos h he hl
            all_goals exact am_noh h
        all_goals exact am_noh h
    case ifCond cd t =>
      have hk := of_decide_eq_true hk
      rcases st with _ | ⟨v0, st⟩
      · exact am_noh h
      · cases v0
        case int xv =>
          cases cd
          case eq =>
            have h : (if xv = 0 then am_run f y n t.toNat lo st S else am_run f y n (i + 1) lo st S) = some r := h
            refine lv_if_eq (tgt := am_P y t.toNat) hx hb hd (by omega) (fun hc => ?_) (fun hc => ?_)
            · rw [if_pos (by first | exact hc | (simpa using hc))] at h; exact gos h rfl hl
            · rw [if_neg (by first | exact hc | (simpa using hc))] at h; exact gos h he hl
          case ne =>
            have h : (if xv = 0 then am_run f y n (i + 1) lo st S else am_run f y n t.toNat lo st S) = some r := h
            refine lv_if_ne (tgt := am_P y t.toNat) hx hb hd (by omega) (fun hc => ?_) (fun hc => ?_)
            · rw [if_neg (by first | exact hc | (simpa using hc))] at h; exact gos h rfl hl
            · rw [if_pos (by first | exact hc | (simpa using hc) | exact Decidable.not_not.mp hc)] at h; exact gos h he hl
          case lt =>
            have h : (if xv < 0 then am_run f y n t.toNat lo st S else am_run f y n (i + 1) lo st S) = some r := h
            refine lv_if_lt (tgt := am_P y t.toNat) hx hb hd (by omega) (fun hc => ?_) (fun hc => ?_)
            · rw [if_pos (by first | exact hc | (simpa using hc))] at h; exact gos h rfl hl
            · rw [if_neg (by first | exact hc | (simpa using hc))] at h; exact gos h he hl
          case ge =>
            have h : (if xv < 0 then am_run f y n (i + 1) lo st S else am_run f y n t.toNat lo st S) = some r := h
            refine lv_if_ge (tgt := am_P y t.toNat) hx hb hd (by omega) (fun hc => ?_) (fun hc => ?_)
            · rw [if_neg (by first | exact Int32.not_lt.mpr hc | (simpa using hc))] at h; exact gos h rfl hl
            · rw [if_pos (by first | exact Int32.not_le.mp hc | (simpa using hc))] at h; exact gos h he hl
          case gt =>
            have h : (if 0 < xv then am_run f y n t.toNat lo st S else am_run f y n (i + 1) lo st S) = some r := h
            refine lv_if_gt (tgt := am_P y t.toNat) hx hb hd (by omega) (fun hc => ?_) (fun hc => ?_)
            · rw [if_pos (by first | exact hc | (simpa using hc))] at h; exact gos h rfl hl
            · rw [if_neg (by first | exact hc | (simpa using hc))] at h; exact gos h he hl
          case le =>
            have h : (if 0 < xv then am_run f y n (i + 1) lo st S else am_run f y n t.toNat lo st S) = some r := h
            refine lv_if_le (tgt := am_P y t.toNat) hx hb hd (by omega) (fun hc => ?_) (fun hc => ?_)
            · rw [if_neg (by first | exact Int32.not_lt.mpr hc | (simpa using hc))] at h; exact gos h rfl hl
            · rw [if_pos (by first | exact Int32.not_le.mp hc | (simpa using hc))] at h; exact gos h he hl
        all_goals exact am_noh h
    case tableswitch dd lw hg ts =>
      rcases st with _ | ⟨v0, st⟩
      · exact am_noh h
      · cases v0
        case int xv =>
          have hk := of_decide_eq_true hk
          have h : am_sw xv (am_run f y n dd.toNat lo st S) (fun t => am_run f y n t lo st S) lw.toNat ts.toList = some r := h
          rcases am_sw_spec xv ts.toList lw.toNat (by omega) h with ⟨j, t, ht, hxj, h⟩ | ⟨ho, h⟩
          · have hjl : j < ts.toList.length := (List.getElem?_eq_some_iff.mp ht).1
            have hxi : xv.toInt = (lw.toNat + j : Nat) := by rw [hxj, nI_toInt (by omega)]
            refine lv_tableIn (off := (am_P y t.toNat : Int) - am_P y i) (tgt := am_P y t.toNat) hx hb hd (by omega) (by omega) ?_ (by omega) ?_
            · rw [Array.getElem?_map, ← Array.getElem?_toList, show (xv.toInt - lw).toNat = j by omega, ht]
              rfl
            · exact gos h rfl hl
          · refine lv_tableOut (tgt := am_P y dd.toNat) hx hb hd ?_ (by omega) ?_
            · rcases (show xv.toInt < lw ∨ lw ≤ xv.toInt by omega) with z | z
              · exact Or.inl z
              · refine Or.inr (Int.not_le.mp fun z2 => ?_)
                have hj : (xv.toInt - lw).toNat < ts.toList.length := by omega
                refine ho _ hj ?_
                apply Int32.toInt_inj.mp
                rw [nI_toInt (by omega)]
                omega
            · exact gos h rfl hl
        all_goals exact am_noh h
    case lookupswitch dd ps =>
      rcases st with _ | ⟨v0, st⟩
      · exact am_noh h
      · cases v0
        case int xv =>
          obtain ⟨hk0, hk1⟩ := Bool.and_eq_true_iff.mp hk
          have h : am_lk xv (am_run f y n dd.toNat lo st S) (fun t => am_run f y n t lo st S) ps.toList = some r := h
          have hs := am_lk_spec (y := y) (i := i) (dd := dd) xv (am_run f y n dd.toNat lo st S) (fun t => am_run f y n t lo st S) ps.toList hk0
          obtain ⟨tg, hto, hrn⟩ := hs
          rw [hrn rfl] at h
          refine lv_lookup (off := (am_P y tg : Int) - am_P y i) (tgt := am_P y tg) hx hb hd ?_ (by rw [Array.toList_map]; exact hto) (by omega) ?_
          · rw [Array.toList_map]
            have := am_sorted ps.toList (fun z => (z.1, (am_P y z.2.toNat : Int) - am_P y i)) (fun _ => rfl) hk1
            exact this
          · exact gos h rfl hl
        all_goals exact am_noh h
    case getfield k =>
      rcases st with _ | ⟨v0, st⟩
      · exact am_noh h
      · cases v0
        case ref a =>
          have h : (if am_c S a = k / 256 then (match k % 4 with
            | 0 => am_run f y n (i + 1) lo (.int (am_i S a (k / 4 % 64)) :: st) S
            | 1 => am_run f y n (i + 1) lo (.long (am_j S a (k / 4 % 64)) :: st) S
            | _ => am_bq (am_r S a (k / 4 % 64)) fun r => am_run f y n (i + 1) lo (.ref r :: st) S) else none) = some r := h
          have hd : decode (pg_by y) (am_P y i) = .ok (.getfield q2, 3) := hd
          have he : am_P y i + 3 = am_P y (i + 1) := he
          have hk : (decide (k / 256 < 13) && decide (k / 4 % 64 < am_N (k / 256)) && (match (generalizing := false) q1 with
                | 0 => lk_f.contains (pg_ow y, q2, k / 256, k / 4 % 64)
                | _ => decide (pg_ow y = 11 ∧ q2 = 181 ∧ k / 256 = 4 ∧ k / 4 % 64 = 3)) &&
                (match (generalizing := false) k % 4, (am_ft (k / 256)).getD (k / 4 % 64) 9 with | 0, 0 => true | 0, 3 => true | 1, 1 => true | 2, 2 => true | _, _ => false)) = true := hk
          generalize k / 256 = cc at h hk
          generalize k / 4 % 64 = j at h hk
          generalize k % 4 = t at h hk
          simp only [Bool.and_eq_true, decide_eq_true_eq] at hk
          obtain ⟨⟨⟨hc13, hjN⟩, hlk⟩, hty⟩ := hk
          by_cases hc : am_c S a = cc
          case neg => rw [if_neg hc] at h; exact am_noh h
          rw [if_pos hc] at h
          have haS : a < am_n S := (hIv.1 a (by omega)).1
          have hws := am_wd_at (dA := dA) (ad := ad) haS
          rw [am_ce_o hc (by omega)] at hws
          have hcl := am_cl cc hc13
          have hft : (am_ft cc)[j]? = some ((am_ft cc).getD j 9) := by
            have hlen : j < (am_ft cc).length := by rw [am_ft_len cc hc13]; exact hjN
            rw [List.getD_eq_getElem?_getD, List.getElem?_eq_getElem hlen]
            rfl
          have hfs := am_fs_at (ad := ad) (S := S) (a := a) (am_ft cc) 0 j _ hft
          rw [Nat.zero_add] at hfs
          have key : W p l e R s m args below meth c H locs (am_n S - n0) (am_w S - w0) Q (F0 m (am_P y i + 3) ls (am_fv ad S a ((am_ft cc).getD j 9) j :: st.map (am_tr ad))) → W p l e R s m args below meth c H locs (am_n S - n0) (am_w S - w0) Q (F0 m (am_P y i) ls (.ref (ad a) :: st.map (am_tr ad))) := by
            intro kk
            rcases q1 with _ | q1
            · have hm : (pg_ow y, q2, cc, j) ∈ lk_f := by simpa using hlk
              exact va_get hx hb hts (fun w hw => lw_gw_in (am_uw cc hc13 w hw) (am_uw_good w hw)) hown hK hP a hws hcl j hjN (hin (lk_f_ok _ hm) rfl) (fun _ h9 => by rw [← (am_ftok cc hc13 j hjN).2]; exact h9) hfs hd kk
            · obtain ⟨z1, z2, z3, z4⟩ := of_decide_eq_true hlk
              subst z3; subst z4
              rw [z1] at hown
              rw [z2] at hd
              exact va_getN hx hb hts (fun w hw => lw_gw_in (am_uw 4 hc13 w hw) (am_uw_good w hw)) hown hK hP a hws hcl 3 hjN (va_Nw.use rfl hNW.2.1) (fun _ h9 => h9) hfs hd kk
          refine key ?_
          clear key
          generalize (am_ft cc).getD j 9 = ft at hty hfs
          match t, ft, hty with
          | 0, 0, _ => exact gos h he hl
          | 0, 3, _ => exact gos h he hl
          | 1, 1, _ => exact gos h he hl
          | 2, 2, _ =>
            have h : am_bq (am_r S a j) (fun r => am_run f y n (i + 1) lo (.ref r :: st) S) = some r := h
            show W p l e R s m args below meth c H locs (am_n S - n0) (am_w S - w0) Q (F0 m (am_P y i + 3) ls (va_rf ((am_r S a j).map ad) :: st.map (am_tr ad)))
            cases hr : am_r S a j with
            | none => rw [hr] at h; exact am_noh h
            | some r' =>
              rw [hr] at h
              exact gos (st' := .ref r' :: st) h he hl
        all_goals exact am_noh h
    case putfield k =>
      rcases st with _ | ⟨v0, _ | ⟨v1, st⟩⟩
      · exact am_noh h
      · cases v0 <;> exact am_noh h
      · cases v0
        case int x =>
          cases v1
          case ref a =>
            have h : (if am_c S a = k / 256 then (match k % 4 with
                  | 0 => am_run f y n (i + 1) lo st (am_pi S a (k / 4 % 64) x)
                  | 3 => (if x = 0 ∨ x = 1 then am_run f y n (i + 1) lo st (am_pi S a (k / 4 % 64) x) else none)
                  | _ => none) else none) = some r := h
            have hd : decode (pg_by y) (am_P y i) = .ok (.putfield q2, 3) := hd
            have he : am_P y i + 3 = am_P y (i + 1) := he
            have hk : (decide (k / 256 < 13) && decide (k / 4 % 64 < am_N (k / 256)) && lk_f.contains (pg_ow y, q2, k / 256, k / 4 % 64) && decide ((am_ft (k / 256)).getD (k / 4 % 64) 9 = k % 4) &&
                  ((am_T (k / 256) (k / 4 % 64)).2.2.2 == false || (decide (pg_ow y = k / 256) && decide ((pg_nm y).name = "<init>")))) = true := hk
            generalize k / 256 = cc at h hk
            generalize k / 4 % 64 = j at h hk
            generalize k % 4 = t at h hk
            simp only [Bool.and_eq_true, decide_eq_true_eq] at hk
            obtain ⟨⟨⟨⟨hc13, hjN⟩, hlk⟩, hty⟩, hfin⟩ := hk
            by_cases hc : am_c S a = cc
            case neg => rw [if_neg hc] at h; exact am_noh h
            rw [if_pos hc] at h
            have haS : a < am_n S := (hIv.1 a (by omega)).1
            have hws := am_wd_at (dA := dA) (ad := ad) haS
            rw [am_ce_o hc (by omega)] at hws
            have hcl := am_cl cc hc13
            have hft : (am_ft cc)[j]? = some t := by
              have hlen : j < (am_ft cc).length := by rw [am_ft_len cc hc13]; exact hjN
              rw [← hty, List.getD_eq_getElem?_getD, List.getElem?_eq_getElem hlen]
              rfl
            obtain ⟨hq1, hq2⟩ := am_ftok cc hc13 j hjN
            rw [hty] at hq1
            have hlen2 : j < (am_fs ad S a (am_ft cc) 0).length := by rw [am_fs_len, am_ft_len cc hc13]; exact hjN
            have hm : (pg_ow y, q2, cc, j) ∈ lk_f := by simpa using hlk
            have key : ∀ v : Value, narrow (am_ty cc j) v = v → fits (am_ty cc j) v = true → (∀ (H1 : Heap) (locs1 : List Loc), va_P D vwCl ((am_wd dA ad S).set a (ad a, .inr (cc, (am_fs ad S a (am_ft cc) 0).set j v))) H1 → va_D A ((am_wd dA ad S).set a (ad a, .inr (cc, (am_fs ad S a (am_ft cc) 0).set j v))) → va_S A s.heap H1 locs1 → W p l e R s m args below meth c H1 locs1 (am_n S - n0) (am_w S - w0) Q (F0 m (am_P y i + 3) ls (st.map (am_tr ad)))) → W p l e R s m args below meth c H locs (am_n S - n0) (am_w S - w0) Q (F0 m (am_P y i) ls (v :: .ref (ad a) :: st.map (am_tr ad))) := by
              intro v hn hfit kk
              by_cases hfn : (am_T cc j).2.2.2 = true
              · rcases Bool.or_eq_true_iff.mp hfin with z | z
                · rw [hfn] at z; cases z
                · simp only [Bool.and_eq_true, decide_eq_true_eq] at z
                  exact va_putF hx hb hts (fun w hw => lw_gw_in (am_uw cc hc13 w hw) (am_uw_good w hw)) (am_ty cc) (am_tyok cc hc13) (am_nmok cc hc13) hown hK hP hD hS a hws hcl j hjN (hin (lk_f_ok _ hm) rfl) (fun _ h9 => by rw [← hq2]; exact h9) hfn (hnm z.2) (by rw [hq2, z.1]) (am_tyok cc hc13 j hjN) hn hfit hlen2 hd kk
              · exact va_put hx hb hts (fun w hw => lw_gw_in (am_uw cc hc13 w hw) (am_uw_good w hw)) (am_ty cc) (am_tyok cc hc13) (am_nmok cc hc13) hown hK hP hD hS a hws hcl j hjN (hin (lk_f_ok _ hm) rfl) (fun _ h9 => by rw [← hq2]; exact h9) (by simpa using hfn) (am_tyok cc hc13 j hjN) hn hfit hlen2 hd kk
            
            match t, hq1, hft, h with
            | 0, hq1, hft, h =>
              refine key (.int x) (by cases hz : am_ty cc j <;> rw [hz] at hq1 <;> first | rfl | cases hq1) (by cases hz : am_ty cc j <;> rw [hz] at hq1 <;> first | rfl | cases hq1) (fun H1 locs1 hP1 hD1 hS1 => ?_)
              rw [am_wd_pi_o hc (by omega) hft (Or.inl rfl)] at hP1 hD1
              exact go (S' := am_pi S a j x) h he (Nat.le_refl _) (Nat.le_refl _) am_ag.rf hP1 hD1 hS1 (hIv.pi (by omega)) hl
            | 3, hq1, hft, h =>
              have h : (if x = 0 ∨ x = 1 then am_run f y n (i + 1) lo st (am_pi S a j x) else none) = some r := h
              by_cases hx01 : x = 0 ∨ x = 1
              case neg => rw [if_neg hx01] at h; exact am_noh h
              rw [if_pos hx01] at h
              refine key (.int x) (by cases hz : am_ty cc j <;> rw [hz] at hq1 <;> first | (rcases hx01 with rfl | rfl <;> rfl) | cases hq1) (by cases hz : am_ty cc j <;> rw [hz] at hq1 <;> first | (rcases hx01 with rfl | rfl <;> rfl) | cases hq1) (fun H1 locs1 hP1 hD1 hS1 => ?_)
              rw [am_wd_pi_o hc (by omega) hft (Or.inr rfl)] at hP1 hD1
              exact go (S' := am_pi S a j x) h he (Nat.le_refl _) (Nat.le_refl _) am_ag.rf hP1 hD1 hS1 (hIv.pi (by omega)) hl
            | 1, _, _, h => exact am_noh h
            | 2, _, _, h => exact am_noh h
            | t + 4, _, _, h => exact am_noh h
          all_goals exact am_noh h
        case long x =>
          cases v1
          case ref a =>
            have h : (if am_c S a = k / 256 then (match k % 4 with
                  | 1 => am_run f y n (i + 1) lo st (am_pj S a (k / 4 % 64) x)
                  | _ => none) else none) = some r := h
            have hd : decode (pg_by y) (am_P y i) = .ok (.putfield q2, 3) := hd
            have he : am_P y i + 3 = am_P y (i + 1) := he
            have hk : (decide (k / 256 < 13) && decide (k / 4 % 64 < am_N (k / 256)) && lk_f.contains (pg_ow y, q2, k / 256, k / 4 % 64) && decide ((am_ft (k / 256)).getD (k / 4 % 64) 9 = k % 4) &&
                  ((am_T (k / 256) (k / 4 % 64)).2.2.2 == false || (decide (pg_ow y = k / 256) && decide ((pg_nm y).name = "<init>")))) = true := hk
            generalize k / 256 = cc at h hk
            generalize k / 4 % 64 = j at h hk
            generalize k % 4 = t at h hk
            simp only [Bool.and_eq_true, decide_eq_true_eq] at hk
            obtain ⟨⟨⟨⟨hc13, hjN⟩, hlk⟩, hty⟩, hfin⟩ := hk
            by_cases hc : am_c S a = cc
            case neg => rw [if_neg hc] at h; exact am_noh h
            rw [if_pos hc] at h
            have haS : a < am_n S := (hIv.1 a (by omega)).1
            have hws := am_wd_at (dA := dA) (ad := ad) haS
            rw [am_ce_o hc (by omega)] at hws
            have hcl := am_cl cc hc13
            have hft : (am_ft cc)[j]? = some t := by
              have hlen : j < (am_ft cc).length := by rw [am_ft_len cc hc13]; exact hjN
              rw [← hty, List.getD_eq_getElem?_getD, List.getElem?_eq_getElem hlen]
              rfl
            obtain ⟨hq1, hq2⟩ := am_ftok cc hc13 j hjN
            rw [hty] at hq1
            have hlen2 : j < (am_fs ad S a (am_ft cc) 0).length := by rw [am_fs_len, am_ft_len cc hc13]; exact hjN
            have hm : (pg_ow y, q2, cc, j) ∈ lk_f := by simpa using hlk
            have key : ∀ v : Value, narrow (am_ty cc j) v = v → fits (am_ty cc j) v = true → (∀ (H1 : Heap) (locs1 : List Loc), va_P D vwCl ((am_wd dA ad S).set a (ad a, .inr (cc, (am_fs ad S a (am_ft cc) 0).set j v))) H1 → va_D A ((am_wd dA ad S).set a (ad a, .inr (cc, (am_fs ad S a (am_ft cc) 0).set j v))) → va_S A s.heap H1 locs1 → W p l e R s m args below meth c H1 locs1 (am_n S - n0) (am_w S - w0) Q (F0 m (am_P y i + 3) ls (st.map (am_tr ad)))) → W p l e R s m args below meth c H locs (am_n S - n0) (am_w S - w0) Q (F0 m (am_P y i) ls (v :: .ref (ad a) :: st.map (am_tr ad))) := by
              intro v hn hfit kk
              by_cases hfn : (am_T cc j).2.2.2 = true
              · rcases Bool.or_eq_true_iff.mp hfin with z | z
                · rw [hfn] at z; cases z
                · simp only [Bool.and_eq_true, decide_eq_true_eq] at z
                  exact va_putF hx hb hts (fun w hw => lw_gw_in (am_uw cc hc13 w hw) (am_uw_good w hw)) (am_ty cc) (am_tyok cc hc13) (am_nmok cc hc13) hown hK hP hD hS a hws hcl j hjN (hin (lk_f_ok _ hm) rfl) (fun _ h9 => by rw [← hq2]; exact h9) hfn (hnm z.2) (by rw [hq2, z.1]) (am_tyok cc hc13 j hjN) hn hfit hlen2 hd kk
              · exact va_put hx hb hts (fun w hw => lw_gw_in (am_uw cc hc13 w hw) (am_uw_good w hw)) (am_ty cc) (am_tyok cc hc13) (am_nmok cc hc13) hown hK hP hD hS a hws hcl j hjN (hin (lk_f_ok _ hm) rfl) (fun _ h9 => by rw [← hq2]; exact h9) (by simpa using hfn) (am_tyok cc hc13 j hjN) hn hfit hlen2 hd kk
            
            match t, hq1, hft, h with
            | 1, hq1, hft, h =>
              refine key (.long x) (by cases hz : am_ty cc j <;> rw [hz] at hq1 <;> first | rfl | cases hq1) (by cases hz : am_ty cc j <;> rw [hz] at hq1 <;> first | rfl | cases hq1) (fun H1 locs1 hP1 hD1 hS1 => ?_)
              rw [am_wd_pj_o hc (by omega) hft] at hP1 hD1
              exact go (S' := am_pj S a j x) h he (Nat.le_refl _) (Nat.le_refl _) am_ag.rf hP1 hD1 hS1 hIv.pj hl
            | 0, _, _, h => exact am_noh h
            | t + 2, _, _, h => exact am_noh h
          all_goals exact am_noh h
        case ref x =>
          cases v1
          case ref a =>
            have h : (if am_c S a = k / 256 then (match k % 4 with
                  | 2 => (if am_c S x < 900 then am_run f y n (i + 1) lo st (am_pr S a (k / 4 % 64) x) else none)
                  | _ => none) else none) = some r := h
            have hd : decode (pg_by y) (am_P y i) = .ok (.putfield q2, 3) := hd
            have he : am_P y i + 3 = am_P y (i + 1) := he
            have hk : (decide (k / 256 < 13) && decide (k / 4 % 64 < am_N (k / 256)) && lk_f.contains (pg_ow y, q2, k / 256, k / 4 % 64) && decide ((am_ft (k / 256)).getD (k / 4 % 64) 9 = k % 4) &&
                  ((am_T (k / 256) (k / 4 % 64)).2.2.2 == false || (decide (pg_ow y = k / 256) && decide ((pg_nm y).name = "<init>")))) = true := hk
            generalize k / 256 = cc at h hk
            generalize k / 4 % 64 = j at h hk
            generalize k % 4 = t at h hk
            simp only [Bool.and_eq_true, decide_eq_true_eq] at hk
            obtain ⟨⟨⟨⟨hc13, hjN⟩, hlk⟩, hty⟩, hfin⟩ := hk
            by_cases hc : am_c S a = cc
            case neg => rw [if_neg hc] at h; exact am_noh h
            rw [if_pos hc] at h
            have haS : a < am_n S := (hIv.1 a (by omega)).1
            have hws := am_wd_at (dA := dA) (ad := ad) haS
            rw [am_ce_o hc (by omega)] at hws
            have hcl := am_cl cc hc13
            have hft : (am_ft cc)[j]? = some t := by
              have hlen : j < (am_ft cc).length := by rw [am_ft_len cc hc13]; exact hjN
              rw [← hty, List.getD_eq_getElem?_getD, List.getElem?_eq_getElem hlen]
              rfl
            obtain ⟨hq1, hq2⟩ := am_ftok cc hc13 j hjN
            rw [hty] at hq1
            have hlen2 : j < (am_fs ad S a (am_ft cc) 0).length := by rw [am_fs_len, am_ft_len cc hc13]; exact hjN
            have hm : (pg_ow y, q2, cc, j) ∈ lk_f := by simpa using hlk
            have key : ∀ v : Value, narrow (am_ty cc j) v = v → fits (am_ty cc j) v = true → (∀ (H1 : Heap) (locs1 : List Loc), va_P D vwCl ((am_wd dA ad S).set a (ad a, .inr (cc, (am_fs ad S a (am_ft cc) 0).set j v))) H1 → va_D A ((am_wd dA ad S).set a (ad a, .inr (cc, (am_fs ad S a (am_ft cc) 0).set j v))) → va_S A s.heap H1 locs1 → W p l e R s m args below meth c H1 locs1 (am_n S - n0) (am_w S - w0) Q (F0 m (am_P y i + 3) ls (st.map (am_tr ad)))) → W p l e R s m args below meth c H locs (am_n S - n0) (am_w S - w0) Q (F0 m (am_P y i) ls (v :: .ref (ad a) :: st.map (am_tr ad))) := by
              intro v hn hfit kk
              by_cases hfn : (am_T cc j).2.2.2 = true
              · rcases Bool.or_eq_true_iff.mp hfin with z | z
                · rw [hfn] at z; cases z
                · simp only [Bool.and_eq_true, decide_eq_true_eq] at z
                  exact va_putF hx hb hts (fun w hw => lw_gw_in (am_uw cc hc13 w hw) (am_uw_good w hw)) (am_ty cc) (am_tyok cc hc13) (am_nmok cc hc13) hown hK hP hD hS a hws hcl j hjN (hin (lk_f_ok _ hm) rfl) (fun _ h9 => by rw [← hq2]; exact h9) hfn (hnm z.2) (by rw [hq2, z.1]) (am_tyok cc hc13 j hjN) hn hfit hlen2 hd kk
              · exact va_put hx hb hts (fun w hw => lw_gw_in (am_uw cc hc13 w hw) (am_uw_good w hw)) (am_ty cc) (am_tyok cc hc13) (am_nmok cc hc13) hown hK hP hD hS a hws hcl j hjN (hin (lk_f_ok _ hm) rfl) (fun _ h9 => by rw [← hq2]; exact h9) (by simpa using hfn) (am_tyok cc hc13 j hjN) hn hfit hlen2 hd kk
            
            match t, hq1, hft, h with
            | 2, hq1, hft, h =>
              have h : (if am_c S x < 900 then am_run f y n (i + 1) lo st (am_pr S a j x) else none) = some r := h
              by_cases hx9 : am_c S x < 900
              case neg => rw [if_neg hx9] at h; exact am_noh h
              rw [if_pos hx9] at h
              refine key (.ref (ad x)) (by cases hz : am_ty cc j <;> rw [hz] at hq1 <;> first | rfl | cases hq1) (by cases hz : am_ty cc j <;> rw [hz] at hq1 <;> first | rfl | cases hq1) (fun H1 locs1 hP1 hD1 hS1 => ?_)
              rw [am_wd_pr_o hc (by omega) hft] at hP1 hD1
              exact go (S' := am_pr S a j x) h he (Nat.le_refl _) (Nat.le_refl _) am_ag.rf hP1 hD1 hS1 (hIv.pr (hIv.1 x hx9).1) hl
            | 0, _, _, h => exact am_noh h
            | 1, _, _, h => exact am_noh h
            | t + 3, _, _, h => exact am_noh h
          all_goals exact am_noh h
        all_goals exact am_noh h
    case iaload =>
      rcases st with _ | ⟨v0, st⟩
      · exact am_noh h
      · cases v0
        case int x =>
          rcases st with _ | ⟨v1, st⟩
          · exact am_noh h
          · cases v1
            case ref a =>
              have h : (if am_c S a = 100 then (if x < 0 ∨ am_l S a ≤ x.toNatClampNeg then none else am_run f y n (i + 1) lo (.int (am_i S a x.toNatClampNeg) :: st) S) else none) = some r := h
              by_cases hc : am_c S a = 100
              case neg => rw [if_neg hc] at h; exact am_noh h
              rw [if_pos hc] at h
              by_cases hxi : x < 0 ∨ am_l S a ≤ x.toNatClampNeg
              · rw [if_pos hxi] at h; exact am_noh h
              rw [if_neg hxi] at h
              have haS : a < am_n S := (hIv.1 a (by omega)).1
              have hws := am_wd_at (dA := dA) (ad := ad) haS
              rw [am_ce_a hc (by decide), am_ac_i hc (by decide)] at hws
              refine va_iald hx hb hK hP a 0 hws rfl hxi hd ?_
              exact gos h he hl
            all_goals exact am_noh h
        all_goals exact am_noh h
    case baload =>
      rcases st with _ | ⟨v0, st⟩
      · exact am_noh h
      · cases v0
        case int x =>
          rcases st with _ | ⟨v1, st⟩
          · exact am_noh h
          · cases v1
            case ref a =>
              have h : (if am_c S a = 101 then (if x < 0 ∨ am_l S a ≤ x.toNatClampNeg then none else am_run f y n (i + 1) lo (.int (am_i S a x.toNatClampNeg) :: st) S) else none) = some r := h
              by_cases hc : am_c S a = 101
              case neg => rw [if_neg hc] at h; exact am_noh h
              rw [if_pos hc] at h
              by_cases hxi : x < 0 ∨ am_l S a ≤ x.toNatClampNeg
              · rw [if_pos hxi] at h; exact am_noh h
              rw [if_neg hxi] at h
              have haS : a < am_n S := (hIv.1 a (by omega)).1
              have hws := am_wd_at (dA := dA) (ad := ad) haS
              rw [am_ce_a hc (by decide), am_ac_i hc (by decide)] at hws
              refine va_bald hx hb hK hP a 1 hws rfl hxi hd ?_
              exact gos h he hl
            all_goals exact am_noh h
        all_goals exact am_noh h
    case laload =>
      rcases st with _ | ⟨v0, st⟩
      · exact am_noh h
      · cases v0
        case int x =>
          rcases st with _ | ⟨v1, st⟩
          · exact am_noh h
          · cases v1
            case ref a =>
              have h : (if am_c S a = 102 then (if x < 0 ∨ am_l S a ≤ x.toNatClampNeg then none else am_run f y n (i + 1) lo (.long (am_j S a x.toNatClampNeg) :: st) S) else none) = some r := h
              by_cases hc : am_c S a = 102
              case neg => rw [if_neg hc] at h; exact am_noh h
              rw [if_pos hc] at h
              by_cases hxi : x < 0 ∨ am_l S a ≤ x.toNatClampNeg
              · rw [if_pos hxi] at h; exact am_noh h
              rw [if_neg hxi] at h
              have haS : a < am_n S := (hIv.1 a (by omega)).1
              have hws := am_wd_at (dA := dA) (ad := ad) haS
              rw [am_ce_a hc (by decide), am_ac_j hc] at hws
              refine va_lald hx hb hK hP a 2 hws rfl hxi hd ?_
              exact gos h he hl
            all_goals exact am_noh h
        all_goals exact am_noh h
    case iastore =>
      rcases st with _ | ⟨v0, st⟩
      · exact am_noh h
      · cases v0
        case int v =>
          rcases st with _ | ⟨v1, st⟩
          · exact am_noh h
          · cases v1
            case int x =>
              rcases st with _ | ⟨v2, st⟩
              · exact am_noh h
              · cases v2
                case ref a =>
                  have h : (if am_c S a = 100 then (if x < 0 ∨ am_l S a ≤ x.toNatClampNeg then none else am_run f y n (i + 1) lo st (am_pi S a x.toNatClampNeg v)) else none) = some r := h
                  by_cases hc : am_c S a = 100
                  case neg => rw [if_neg hc] at h; exact am_noh h
                  rw [if_pos hc] at h
                  by_cases hxi : x < 0 ∨ am_l S a ≤ x.toNatClampNeg
                  · rw [if_pos hxi] at h; exact am_noh h
                  rw [if_neg hxi] at h
                  have haS : a < am_n S := (hIv.1 a (by omega)).1
                  have hws := am_wd_at (dA := dA) (ad := ad) haS
                  rw [am_ce_a hc (by decide), am_ac_i hc (by decide)] at hws
                  refine va_iast hx hb hK hP hD hS a 0 hws rfl hxi hd (fun H1 locs1 hP1 hD1 hS1 => ?_)
                  rw [am_wd_pi_a hc (by decide) (by decide)] at hP1 hD1
                  exact go (S' := am_pi S a x.toNatClampNeg v) h he (Nat.le_refl _) (Nat.le_refl _) am_ag.rf hP1 hD1 hS1 (hIv.pi (by omega)) hl
                all_goals exact am_noh h
            all_goals exact am_noh h
        all_goals exact am_noh h
    case bastore =>
      rcases st with _ | ⟨v0, st⟩
      · exact am_noh h
      · cases v0
        case int v =>
          rcases st with _ | ⟨v1, st⟩
          · exact am_noh h
          · cases v1
            case int x =>
              rcases st with _ | ⟨v2, st⟩
              · exact am_noh h
              · cases v2
                case ref a =>
                  have h : (if am_c S a = 101 then (if x < 0 ∨ am_l S a ≤ x.toNatClampNeg then none else am_run f y n (i + 1) lo st (am_pi S a x.toNatClampNeg v.toInt8.toInt32)) else none) = some r := h
                  by_cases hc : am_c S a = 101
                  case neg => rw [if_neg hc] at h; exact am_noh h
                  rw [if_pos hc] at h
                  by_cases hxi : x < 0 ∨ am_l S a ≤ x.toNatClampNeg
                  · rw [if_pos hxi] at h; exact am_noh h
                  rw [if_neg hxi] at h
                  have haS : a < am_n S := (hIv.1 a (by omega)).1
                  have hws := am_wd_at (dA := dA) (ad := ad) haS
                  rw [am_ce_a hc (by decide), am_ac_i hc (by decide)] at hws
                  refine va_bast hx hb hK hP hD hS a 1 hws rfl hxi hd (fun H1 locs1 hP1 hD1 hS1 => ?_)
                  rw [vp_nar_byte, am_wd_pi_a hc (by decide) (by decide)] at hP1 hD1
                  exact go (S' := am_pi S a x.toNatClampNeg v.toInt8.toInt32) h he (Nat.le_refl _) (Nat.le_refl _) am_ag.rf hP1 hD1 hS1 (hIv.pi (by omega)) hl
                all_goals exact am_noh h
            all_goals exact am_noh h
        all_goals exact am_noh h
    case lastore =>
      rcases st with _ | ⟨v0, st⟩
      · exact am_noh h
      · cases v0
        case long v =>
          rcases st with _ | ⟨v1, st⟩
          · exact am_noh h
          · cases v1
            case int x =>
              rcases st with _ | ⟨v2, st⟩
              · exact am_noh h
              · cases v2
                case ref a =>
                  have h : (if am_c S a = 102 then (if x < 0 ∨ am_l S a ≤ x.toNatClampNeg then none else am_run f y n (i + 1) lo st (am_pj S a x.toNatClampNeg v)) else none) = some r := h
                  by_cases hc : am_c S a = 102
                  case neg => rw [if_neg hc] at h; exact am_noh h
                  rw [if_pos hc] at h
                  by_cases hxi : x < 0 ∨ am_l S a ≤ x.toNatClampNeg
                  · rw [if_pos hxi] at h; exact am_noh h
                  rw [if_neg hxi] at h
                  have haS : a < am_n S := (hIv.1 a (by omega)).1
                  have hws := am_wd_at (dA := dA) (ad := ad) haS
                  rw [am_ce_a hc (by decide), am_ac_j hc] at hws
                  refine va_last hx hb hK hP hD hS a 2 hws rfl hxi hd (fun H1 locs1 hP1 hD1 hS1 => ?_)
                  rw [am_wd_pj_a hc] at hP1 hD1
                  exact go (S' := am_pj S a x.toNatClampNeg v) h he (Nat.le_refl _) (Nat.le_refl _) am_ag.rf hP1 hD1 hS1 hIv.pj hl
                all_goals exact am_noh h
            all_goals exact am_noh h
        all_goals exact am_noh h
    case aaload =>
      rcases st with _ | ⟨v0, st⟩
      · exact am_noh h
      · cases v0
        case int x =>
          rcases st with _ | ⟨v1, st⟩
          · exact am_noh h
          · cases v1
            case ref a =>
              have h : (if 103 ≤ am_c S a ∧ am_c S a < 200 then (if x < 0 ∨ am_l S a ≤ x.toNatClampNeg then none else am_bq (am_r S a x.toNatClampNeg) fun r => am_run f y n (i + 1) lo (.ref r :: st) S) else none) = some r := h
              by_cases hc : 103 ≤ am_c S a ∧ am_c S a < 200
              case neg => rw [if_neg hc] at h; exact am_noh h
              rw [if_pos hc] at h
              by_cases hxi : x < 0 ∨ am_l S a ≤ x.toNatClampNeg
              · rw [if_pos hxi] at h; exact am_noh h
              rw [if_neg hxi] at h
              obtain ⟨haS, hvk⟩ := hIv.1 a (by omega)
              have hws := am_wd_at (dA := dA) (ad := ad) haS
              obtain ⟨t0, ty, ht0, href, -⟩ := am_kty (dA := dA) hvk hc.1
              generalize hcc : am_c S a = cc at hc ht0
              rw [am_ce_a hcc (by omega), am_ac_r hcc (by omega)] at hws
              have hlt : x.toNatClampNeg < am_l S a := Nat.not_le.mp fun q => hxi (Or.inr q)
              refine W.aald (v := va_rf ((am_r S a x.toNatClampNeg).map ad)) (ty := ty) hx hb (hP a _ hws) ((hK.2 t0 _ ht0).1 (am_l S a) (fun j => va_rf ((am_r S a j).map ad))) href (fun q => by cases q) (by show ¬ (x < 0 ∨ (arrV _ _ _).slots.size ≤ _); rw [arrV_size]; exact hxi) (by show (arrV _ _ _).slots[_]? = _; rw [arrV_read _ _ hlt]) rfl rfl hd ?_
              cases hr : am_r S a x.toNatClampNeg with
              | none => rw [hr] at h; exact am_noh h
              | some r' =>
                rw [hr] at h
                exact gos (st' := .ref r' :: st) h he hl
            all_goals exact am_noh h
        all_goals exact am_noh h
    case aastore =>
      rcases st with _ | ⟨v0, st⟩
      · exact am_noh h
      · cases v0
        case ref v =>
          rcases st with _ | ⟨v1, st⟩
          · exact am_noh h
          · cases v1
            case int x =>
              rcases st with _ | ⟨v2, st⟩
              · exact am_noh h
              · cases v2
                case ref a =>
                  have h : (if am_c S a = 103 + am_c S v ∧ am_c S v < 50 then (if x < 0 ∨ am_l S a ≤ x.toNatClampNeg then none else am_run f y n (i + 1) lo st (am_pr S a x.toNatClampNeg v)) else none) = some r := h
                  by_cases hc : am_c S a = 103 + am_c S v ∧ am_c S v < 50
                  case neg => rw [if_neg hc] at h; exact am_noh h
                  rw [if_pos hc] at h
                  by_cases hxi : x < 0 ∨ am_l S a ≤ x.toNatClampNeg
                  · rw [if_pos hxi] at h; exact am_noh h
                  rw [if_neg hxi] at h
                  obtain ⟨haS, hvk⟩ := hIv.1 a (by omega)
                  obtain ⟨hvS, hvk2⟩ := hIv.1 v (by omega)
                  have hv13 : am_c S v < 13 := by unfold am_vk at hvk2; omega
                  have hws := am_wd_at (dA := dA) (ad := ad) haS
                  have hwv := am_wd_at (dA := dA) (ad := ad) hvS
                  obtain ⟨t0, ty, ht0, -, hob⟩ := am_kty (dA := dA) hvk (by omega)
                  have hob := hob (am_c S v) hc.1 hv13
                  subst hob
                  rw [am_ce_a rfl (by omega), am_ac_r rfl (by omega)] at hws
                  rw [am_ce_o rfl (by omega)] at hwv
                  refine va_astq hx hb hK hP hD hS a t0 v (am_c S v) hws ht0 hwv (am_cl _ hv13) hxi hd (fun H1 locs1 hP1 hD1 hS1 => ?_)
                  rw [am_wd_pr_a rfl (by omega)] at hP1 hD1
                  exact go (S' := am_pr S a x.toNatClampNeg v) h he (Nat.le_refl _) (Nat.le_refl _) am_ag.rf hP1 hD1 hS1 (hIv.pr hvS) hl
                all_goals exact am_noh h
            all_goals exact am_noh h
        all_goals exact am_noh h
    case saload =>
      rcases st with _ | ⟨v0, st⟩
      · exact am_noh h
      · cases v0
        case int x =>
          rcases st with _ | ⟨v1, st⟩
          · exact am_noh h
          · cases v1
            case ref a =>
              have h : (if am_c S a = 998 then (if x < 0 ∨ (am_i S (a + 1000000) 0).toNatClampNeg ≤ x.toNatClampNeg then none else am_run f y n (i + 1) lo (.int (am_i S a x.toNatClampNeg) :: st) S) else none) = some r := h
              by_cases hc : am_c S a = 998
              case neg => rw [if_neg hc] at h; exact am_noh h
              rw [if_pos hc] at h
              obtain ⟨j, hj, rfl⟩ := hIv.2.2.1 a hc
              have hT := hE.2.1 j hj
              have e1 : am_i S (2000000 + j + 1000000) 0 = nI (am_xl L j) := by rw [show 2000000 + j + 1000000 = 3000000 + j by omega]; exact hIv.2.2.2.2.1 j hj
              rw [e1] at h
              rw [nI_clamp (am_xl_lt hL31)] at h
              by_cases hxi : x < 0 ∨ am_xl L j ≤ x.toNatClampNeg
              · rw [if_pos hxi] at h; exact am_noh h
              rw [if_neg hxi] at h
              have hlt : x.toNatClampNeg < am_xl L j := Nat.not_le.mp fun q => hxi (Or.inr q)
              refine va_ti (v := .int (am_i S (2000000 + j) x.toNatClampNeg)) hx hb hT hS hxi (by rw [hIv.2.2.2.1 j hj _ hlt]) hd ?_
              exact gos h he hl
            all_goals exact am_noh h
        all_goals exact am_noh h
    case sastore =>
      rcases st with _ | ⟨v0, st⟩
      · exact am_noh h
      · cases v0
        case ref a =>
          have h : (if am_c S a = 998 then am_run f y n (i + 1) lo (.int (am_i S (a + 1000000) 0) :: st) S else none) = some r := h
          by_cases hc : am_c S a = 998
          case neg => rw [if_neg hc] at h; exact am_noh h
          rw [if_pos hc] at h
          obtain ⟨j, hj, rfl⟩ := hIv.2.2.1 a hc
          have hT := hE.2.1 j hj
          have e1 : am_i S (2000000 + j + 1000000) 0 = nI (am_xl L j) := by rw [show 2000000 + j + 1000000 = 3000000 + j by omega]; exact hIv.2.2.2.2.1 j hj
          rw [e1] at h
          refine va_tlen (v := nI (am_xl L j)) hx hb hT hS rfl hd ?_
          exact gos h he hl
        all_goals exact am_noh h
    case arraylength =>
      rcases st with _ | ⟨v0, st⟩
      · exact am_noh h
      · cases v0
        case ref a =>
          have h : (if 100 ≤ am_c S a ∧ am_c S a < 200 then am_run f y n (i + 1) lo (.int (nI (am_l S a)) :: st) S else none) = some r := h
          by_cases hc : 100 ≤ am_c S a ∧ am_c S a < 200
          case neg => rw [if_neg hc] at h; exact am_noh h
          rw [if_pos hc] at h
          obtain ⟨haS, hvk⟩ := hIv.1 a (by omega)
          have hws := am_wd_at (dA := dA) (ad := ad) haS
          rw [am_ce_a rfl (by omega)] at hws
          obtain ⟨t0, ty, ht0⟩ := am_kt1 (dA := dA) hvk hc.1
          refine va_alen (v := nI (am_l S a)) hx hb hK hP a t0 hws ht0 rfl hd ?_
          exact gos h he hl
        all_goals exact am_noh h
    case new k =>
      have h : (if am_gd S lo st = true then am_run f y n (i + 1) lo (.ref (am_n S) :: st) (am_mk S (k / 64) (k % 64)) else none) = some r := h
      by_cases hg : am_gd S lo st = true
      case neg => rw [if_neg hg] at h; exact am_noh h
      rw [if_pos hg] at h
      have hk : (decide (k / 64 < 13) && decide (k % 64 = am_N (k / 64)) && lk_n.contains (pg_ow y, q2, am_on (k / 64))) = true := hk
      generalize k / 64 = cc at h hk
      generalize k % 64 = nn at h hk
      simp only [Bool.and_eq_true, decide_eq_true_eq] at hk
      obtain ⟨⟨hc13, hnn⟩, hlk⟩ := hk
      subst hnn
      have hm : (pg_ow y, q2, am_on cc) ∈ lk_n := by simpa using hlk
      have hins := am_instn cc hc13
      have hmn := am_mono hmo y _ _ _ _ _ _ h
      have e1 : am_n (am_mk S cc (am_N cc)) = am_n S + 1 := rfl
      have e2 : am_w (am_mk S cc (am_N cc)) = am_w S + am_N cc := rfl
      rw [e1, e2] at hmn
      obtain ⟨hgn, hgl, hgs⟩ := am_gd_spec hg
      refine va_new (fs := am_fs (fun _ => 0) (am_mk S cc (am_N cc)) (am_n S) (am_ft cc) 0) hx hb hts (fun w hw => lw_gw_in (am_uw cc hc13 w hw) (am_uw_good w hw)) (am_ty cc) (am_tyok cc hc13) hown (hin (lk_n_ok _ hm) rfl) (hin hins.1 rfl) (hin hins.2 rfl) hK hP hD hS hA (am_cl cc hc13) (fun j hj => am_new_fs hc13 hj) (by omega) (by omega) hd (fun qa H1 hP1 hD1 hS1 => ?_)
      have gu : am_ag (am_n S) ad (am_up ad (am_n S) qa) := am_ag.up (by omega)
      have ew : am_wd dA ad S ++ [(qa, .inr (cc, am_fs (fun _ => 0) (am_mk S cc (am_N cc)) (am_n S) (am_ft cc) 0))] = am_wd dA (am_up ad (am_n S) qa) (am_mk S cc (am_N cc)) := by
        rw [am_wd_mk gu hIv.2.2.2.2.2.2.2.1, am_up_s, am_ce_o (am_mk_c S cc _) (by omega)]
        rw [am_fs_ag (ad := am_up ad (am_n S) qa) (ad' := fun _ => 0) (fun j r hr => by rw [am_mk_r] at hr; cases hr)]
      rw [ew] at hP1 hD1
      rw [show am_n S - n0 + 1 = am_n (am_mk S cc (am_N cc)) - n0 by rw [e1]; omega, show am_w S - w0 + am_N cc = am_w (am_mk S cc (am_N cc)) - w0 by rw [e2]; omega, ← am_okl_tr gu st hgs, show Value.ref qa = am_tr (am_up ad (am_n S) qa) (.ref (am_n S)) by show _ = Value.ref (am_up ad (am_n S) qa (am_n S)); rw [am_up_s]]
      exact go (st' := .ref (am_n S) :: st) h he (Nat.le_succ _) (Nat.le_add_right _ _) gu hP1 hD1 hS1 (hIv.mk (Or.inl hc13) (by omega)) (hl.ag gu hgl)
    case newarray t =>
      rcases st with _ | ⟨v0, st⟩
      · exact am_noh h
      · cases v0
        case int x =>
          have h : (if x < 0 ∨ 1000 < x.toNatClampNeg ∨ am_gd S lo st = false then none else (match t with
                | .int => am_run f y n (i + 1) lo (.ref (am_n S) :: st) (am_mk S 100 x.toNatClampNeg)
                | .byte => am_run f y n (i + 1) lo (.ref (am_n S) :: st) (am_mk S 101 x.toNatClampNeg)
                | .long => am_run f y n (i + 1) lo (.ref (am_n S) :: st) (am_mk S 102 x.toNatClampNeg)
                | _ => none)) = some r := h
          by_cases hz : x < 0 ∨ 1000 < x.toNatClampNeg ∨ am_gd S lo st = false
          · rw [if_pos hz] at h; exact am_noh h
          rw [if_neg hz] at h
          have hx0 : ¬ x < 0 := fun q => hz (Or.inl q)
          have hx1 : x.toNatClampNeg ≤ 1000 := Nat.not_lt.mp fun q => hz (Or.inr (Or.inl q))
          have hg : am_gd S lo st = true := by
            cases hgg : am_gd S lo st with
            | true => rfl
            | false => exact absurd (Or.inr (Or.inr hgg)) hz
          obtain ⟨hgn, hgl, hgs⟩ := am_gd_spec hg
          cases t
          case int =>
            have hgl0 : am_mk S 100 x.toNatClampNeg = am_mk S 100 x.toNatClampNeg := rfl
            have hmn := am_mono hmo y _ _ _ _ _ _ h
            have e1 : am_n (am_mk S 100 x.toNatClampNeg) = am_n S + 1 := rfl
            have e2 : am_w (am_mk S 100 x.toNatClampNeg) = am_w S + x.toNatClampNeg := rfl
            rw [e1, e2] at hmn
            refine va_newa (atype := .int) (ty := .int) (a0 := (x.toNatClampNeg, .inl (fun _ => 0))) hx hb (hin am_w_ai rfl) rfl hK hP hD hS hA (fun cA => rfl) hx0 rfl (by show x.toNatClampNeg * 4 ≤ 536870912; omega) (by omega) (by omega) hd (fun qa cA H1 hK1 hP1 hD1 hS1 => ?_)
            obtain rfl : cA = dA 100 := am_cA_int (hK.2 0 _ rfl).2 (hK1.2 9 (cA, .int) rfl).2
            have gu : am_ag (am_n S) ad (am_up ad (am_n S) qa) := am_ag.up (by omega)
            have ew : am_wd dA ad S ++ [(qa, .inl (dA 100, x.toNatClampNeg, .inl (fun _ => 0)))] = am_wd dA (am_up ad (am_n S) qa) (am_mk S 100 x.toNatClampNeg) := by
              rw [am_wd_mk gu hIv.2.2.2.2.2.2.2.1, am_up_s, am_ce_a (am_mk_c S 100 _) (by decide), am_ac_i (am_mk_c S 100 _) (by decide), am_mk_l, am_mk_i]
            rw [ew] at hP1 hD1
            rw [show am_n S - n0 + 1 = am_n (am_mk S 100 x.toNatClampNeg) - n0 by rw [e1]; omega, show am_w S - w0 + x.toNatClampNeg = am_w (am_mk S 100 x.toNatClampNeg) - w0 by rw [e2]; omega, ← am_okl_tr gu st hgs, show Value.ref qa = am_tr (am_up ad (am_n S) qa) (.ref (am_n S)) by show _ = Value.ref (am_up ad (am_n S) qa (am_n S)); rw [am_up_s]]
            exact go (st' := .ref (am_n S) :: st) h he (Nat.le_succ _) (Nat.le_add_right _ _) gu hP1 hD1 hS1 (hIv.mk (by unfold am_vk; omega) (by omega)) (hl.ag gu hgl)
          case byte =>
            have hgl0 : am_mk S 101 x.toNatClampNeg = am_mk S 101 x.toNatClampNeg := rfl
            have hmn := am_mono hmo y _ _ _ _ _ _ h
            have e1 : am_n (am_mk S 101 x.toNatClampNeg) = am_n S + 1 := rfl
            have e2 : am_w (am_mk S 101 x.toNatClampNeg) = am_w S + x.toNatClampNeg := rfl
            rw [e1, e2] at hmn
            refine va_newa (atype := .byte) (ty := .byte) (a0 := (x.toNatClampNeg, .inl (fun _ => 0))) hx hb (hin am_w_ab rfl) rfl hK hP hD hS hA (fun cA => rfl) hx0 rfl (by show x.toNatClampNeg * 1 ≤ 536870912; omega) (by omega) (by omega) hd (fun qa cA H1 hK1 hP1 hD1 hS1 => ?_)
            obtain rfl : cA = dA 101 := am_cA_byte (hK.2 1 _ rfl).2 (hK1.2 9 (cA, .byte) rfl).2
            have gu : am_ag (am_n S) ad (am_up ad (am_n S) qa) := am_ag.up (by omega)
            have ew : am_wd dA ad S ++ [(qa, .inl (dA 101, x.toNatClampNeg, .inl (fun _ => 0)))] = am_wd dA (am_up ad (am_n S) qa) (am_mk S 101 x.toNatClampNeg) := by
              rw [am_wd_mk gu hIv.2.2.2.2.2.2.2.1, am_up_s, am_ce_a (am_mk_c S 101 _) (by decide), am_ac_i (am_mk_c S 101 _) (by decide), am_mk_l, am_mk_i]
            rw [ew] at hP1 hD1
            rw [show am_n S - n0 + 1 = am_n (am_mk S 101 x.toNatClampNeg) - n0 by rw [e1]; omega, show am_w S - w0 + x.toNatClampNeg = am_w (am_mk S 101 x.toNatClampNeg) - w0 by rw [e2]; omega, ← am_okl_tr gu st hgs, show Value.ref qa = am_tr (am_up ad (am_n S) qa) (.ref (am_n S)) by show _ = Value.ref (am_up ad (am_n S) qa (am_n S)); rw [am_up_s]]
            exact go (st' := .ref (am_n S) :: st) h he (Nat.le_succ _) (Nat.le_add_right _ _) gu hP1 hD1 hS1 (hIv.mk (by unfold am_vk; omega) (by omega)) (hl.ag gu hgl)
          case long =>
            have hgl0 : am_mk S 102 x.toNatClampNeg = am_mk S 102 x.toNatClampNeg := rfl
            have hmn := am_mono hmo y _ _ _ _ _ _ h
            have e1 : am_n (am_mk S 102 x.toNatClampNeg) = am_n S + 1 := rfl
            have e2 : am_w (am_mk S 102 x.toNatClampNeg) = am_w S + x.toNatClampNeg := rfl
            rw [e1, e2] at hmn
            refine va_newa (atype := .long) (ty := .long) (a0 := (x.toNatClampNeg, .inr (.inl (fun _ => 0)))) hx hb (hin am_w_al rfl) rfl hK hP hD hS hA (fun cA => rfl) hx0 rfl (by show x.toNatClampNeg * 8 ≤ 536870912; omega) (by omega) (by omega) hd (fun qa cA H1 hK1 hP1 hD1 hS1 => ?_)
            obtain rfl : cA = dA 102 := am_cA_long (hK.2 2 _ rfl).2 (hK1.2 9 (cA, .long) rfl).2
            have gu : am_ag (am_n S) ad (am_up ad (am_n S) qa) := am_ag.up (by omega)
            have ew : am_wd dA ad S ++ [(qa, .inl (dA 102, x.toNatClampNeg, .inr (.inl (fun _ => 0))))] = am_wd dA (am_up ad (am_n S) qa) (am_mk S 102 x.toNatClampNeg) := by
              rw [am_wd_mk gu hIv.2.2.2.2.2.2.2.1, am_up_s, am_ce_a (am_mk_c S 102 _) (by decide), am_ac_j (am_mk_c S 102 _), am_mk_l, am_mk_j]
            rw [ew] at hP1 hD1
            rw [show am_n S - n0 + 1 = am_n (am_mk S 102 x.toNatClampNeg) - n0 by rw [e1]; omega, show am_w S - w0 + x.toNatClampNeg = am_w (am_mk S 102 x.toNatClampNeg) - w0 by rw [e2]; omega, ← am_okl_tr gu st hgs, show Value.ref qa = am_tr (am_up ad (am_n S) qa) (.ref (am_n S)) by show _ = Value.ref (am_up ad (am_n S) qa (am_n S)); rw [am_up_s]]
            exact go (st' := .ref (am_n S) :: st) h he (Nat.le_succ _) (Nat.le_add_right _ _) gu hP1 hD1 hS1 (hIv.mk (by unfold am_vk; omega) (by omega)) (hl.ag gu hgl)
          all_goals exact am_noh h
        all_goals exact am_noh h
    case anewarray k =>
      rcases st with _ | ⟨v0, st⟩
      · exact am_noh h
      · cases v0
        case int x =>
          have h : (if x < 0 ∨ 1000 < x.toNatClampNeg ∨ am_gd S lo st = false then none else am_run f y n (i + 1) lo (.ref (am_n S) :: st) (am_mk S (103 + k) x.toNatClampNeg)) = some r := h
          by_cases hz : x < 0 ∨ 1000 < x.toNatClampNeg ∨ am_gd S lo st = false
          · rw [if_pos hz] at h; exact am_noh h
          rw [if_neg hz] at h
          have hx0 : ¬ x < 0 := fun q => hz (Or.inl q)
          have hx1 : x.toNatClampNeg ≤ 1000 := Nat.not_lt.mp fun q => hz (Or.inr (Or.inl q))
          have hg : am_gd S lo st = true := by
            cases hgg : am_gd S lo st with
            | true => rfl
            | false => exact absurd (Or.inr (Or.inr hgg)) hz
          obtain ⟨hgn, hgl, hgs⟩ := am_gd_spec hg
          have hk : (decide (k = 1 ∨ k = 2 ∨ k = 7 ∨ k = 9) && lk_n.contains (pg_ow y, q2, am_on k)) = true := hk
          simp only [Bool.and_eq_true, decide_eq_true_eq] at hk
          obtain ⟨hk4, hlk⟩ := hk
          have hm : (pg_ow y, q2, am_on k) ∈ lk_n := by simpa using hlk
          have hmn := am_mono hmo y _ _ _ _ _ _ h
          have e1 : am_n (am_mk S (103 + k) x.toNatClampNeg) = am_n S + 1 := rfl
          have e2 : am_w (am_mk S (103 + k) x.toNatClampNeg) = am_w S + x.toNatClampNeg := rfl
          rw [e1, e2] at hmn
          have hvk : am_vk (103 + k) := by unfold am_vk; omega
          obtain ⟨t0, ty, ht0, -, hob⟩ := am_kty (dA := dA) hvk (by omega)
          have hob := hob k rfl (by omega)
          subst hob
          refine va_newq hx hb hown (hin (lk_n_ok _ hm) rfl) (hNW.2.2.1 k hk4) hK hP hD hS hA hx0 rfl (by omega) (by omega) (by omega) hd (fun qa cA H1 hK1 hP1 hD1 hS1 => ?_)
          obtain rfl : cA = dA (103 + k) := am_cA_obj (hK.2 t0 _ ht0).2 (hK1.2 9 (cA, .object (am_on k)) rfl).2
          have gu : am_ag (am_n S) ad (am_up ad (am_n S) qa) := am_ag.up (by omega)
          have ew : am_wd dA ad S ++ [(qa, .inl (dA (103 + k), x.toNatClampNeg, .inr (.inr (.inr (.inr (fun _ => none))))))] = am_wd dA (am_up ad (am_n S) qa) (am_mk S (103 + k) x.toNatClampNeg) := by
            rw [am_wd_mk gu hIv.2.2.2.2.2.2.2.1, am_up_s, am_ce_a (am_mk_c S (103 + k) _) (by omega), am_ac_r (am_mk_c S (103 + k) _) (by omega), am_mk_l, am_mk_r]
            rfl
          rw [ew] at hP1 hD1
          rw [show am_n S - n0 + 1 = am_n (am_mk S (103 + k) x.toNatClampNeg) - n0 by rw [e1]; omega, show am_w S - w0 + x.toNatClampNeg = am_w (am_mk S (103 + k) x.toNatClampNeg) - w0 by rw [e2]; omega, ← am_okl_tr gu st hgs, show Value.ref qa = am_tr (am_up ad (am_n S) qa) (.ref (am_n S)) by show _ = Value.ref (am_up ad (am_n S) qa (am_n S)); rw [am_up_s]]
          exact go (st' := .ref (am_n S) :: st) h he (Nat.le_succ _) (Nat.le_add_right _ _) gu hP1 hD1 hS1 (hIv.mk hvk (by omega)) (hl.ag gu hgl)
        all_goals exact am_noh h
    case multianewarray k e9 =>
      rcases st with _ | ⟨v0, st⟩
      · exact am_noh h
      · cases v0
        case int y9 =>
          rcases st with _ | ⟨v1, st⟩
          · exact am_noh h
          · cases v1
            case int x =>
              have h : (if x < 0 ∨ 100 < x.toNatClampNeg ∨ y9 < 0 ∨ 1000 < y9.toNatClampNeg ∨ am_gd S lo st = false then none else (match k with
                    | 0 => am_run f y n (i + 1) lo (.ref (am_n S) :: st) (am_rows (am_n S) 100 y9.toNatClampNeg x.toNatClampNeg 0 (am_mk S 180 x.toNatClampNeg))
                    | 1 => am_run f y n (i + 1) lo (.ref (am_n S) :: st) (am_rows (am_n S) 102 y9.toNatClampNeg x.toNatClampNeg 0 (am_mk S 182 x.toNatClampNeg))
                    | _ => none)) = some r := h
              by_cases hz : x < 0 ∨ 100 < x.toNatClampNeg ∨ y9 < 0 ∨ 1000 < y9.toNatClampNeg ∨ am_gd S lo st = false
              · rw [if_pos hz] at h; exact am_noh h
              rw [if_neg hz] at h
              have hx0 : ¬ x < 0 := fun q => hz (Or.inl q)
              have hx1 : x.toNatClampNeg ≤ 100 := Nat.not_lt.mp fun q => hz (Or.inr (Or.inl q))
              have hy0 : ¬ y9 < 0 := fun q => hz (Or.inr (Or.inr (Or.inl q)))
              have hy1 : y9.toNatClampNeg ≤ 1000 := Nat.not_lt.mp fun q => hz (Or.inr (Or.inr (Or.inr (Or.inl q))))
              have hg : am_gd S lo st = true := by
                cases hgg : am_gd S lo st with
                | true => rfl
                | false => exact absurd (Or.inr (Or.inr (Or.inr (Or.inr hgg)))) hz
              obtain ⟨hgn, hgl, hgs⟩ := am_gd_spec hg
              rcases k with _ | _ | k
              · have hk : lk_n.contains (pg_ow y, q2, "[[I") = true := hk
                have hm : (pg_ow y, q2, "[[I") ∈ lk_n := by simpa using hk
                have hmn := am_mono hmo y _ _ _ _ _ _ h
                have e0 : am_n (am_mk S 180 x.toNatClampNeg) = am_n S + 1 := rfl
                have e1 : am_n (am_rows (am_n S) 100 y9.toNatClampNeg x.toNatClampNeg 0 (am_mk S 180 x.toNatClampNeg)) = am_n S + 1 + x.toNatClampNeg := am_rows_n _ _ _ _ _ _
                have e2 : am_w (am_rows (am_n S) 100 y9.toNatClampNeg x.toNatClampNeg 0 (am_mk S 180 x.toNatClampNeg)) = am_w S + x.toNatClampNeg + x.toNatClampNeg * y9.toNatClampNeg := am_rows_w _ _ _ _ _ _
                rw [e1, e2] at hmn
                have hvk : am_vk 180 := by unfold am_vk; omega
                refine am_mna (ty := .int) (cA := dA 180) (cy := dA 100) (z := (y9.toNatClampNeg, .inl (fun _ => 0))) hx hb hown (hin (lk_n_ok _ hm) rfl) hNW.2.2.2.1 (hin am_w_ai rfl) (hK.2 7 (dA 180, .array .int) rfl).2 (hK.2 0 (dA 100, .int) rfl).2 hP hD hS hA hx0 hy0 (by omega) (by show y9.toNatClampNeg * 4 ≤ 536870912; omega) (by omega) rfl rfl (by omega) (by omega) (arrV_new _ _ _) hd (fun H1 hP1 hD1 hS1 => ?_)
                rw [am_wd_rowsE (dA := dA) (c0 := 180) (c := 100) (z := (y9.toNatClampNeg, .inl (fun _ => 0))) hIv.2.2.2.2.2.2.2.1 (by omega) (by omega) hgn hx1 rfl] at hP1 hD1
                rw [show am_n S - n0 + 1 + x.toNatClampNeg = am_n (am_rows (am_n S) 100 y9.toNatClampNeg x.toNatClampNeg 0 (am_mk S 180 x.toNatClampNeg)) - n0 by rw [e1]; omega, show am_w S - w0 + x.toNatClampNeg + x.toNatClampNeg * y9.toNatClampNeg = am_w (am_rows (am_n S) 100 y9.toNatClampNeg x.toNatClampNeg 0 (am_mk S 180 x.toNatClampNeg)) - w0 by rw [e2]; omega, ← am_okl_tr (am_adr_ag (n := am_n S) (h := H.size) (ad := ad)) st hgs, show Value.ref H.size = am_tr (am_adr (am_n S) H.size ad) (.ref (am_n S)) by show _ = Value.ref (am_adr (am_n S) H.size ad (am_n S + 0)); rw [am_adr_at 0 (by omega) (by omega)]; rfl]
                exact go (st' := .ref (am_n S) :: st) h he (by rw [e1]; omega) (by rw [e2]; omega) am_adr_ag hP1 hD1 hS1 (am_Iv.rows (by unfold am_vk; omega) _ _ (hIv.mk hvk (by omega)) (by rw [e0]; omega)) (hl.ag am_adr_ag hgl)
              · have hk : lk_n.contains (pg_ow y, q2, "[[J") = true := hk
                have hm : (pg_ow y, q2, "[[J") ∈ lk_n := by simpa using hk
                have hmn := am_mono hmo y _ _ _ _ _ _ h
                have e0 : am_n (am_mk S 182 x.toNatClampNeg) = am_n S + 1 := rfl
                have e1 : am_n (am_rows (am_n S) 102 y9.toNatClampNeg x.toNatClampNeg 0 (am_mk S 182 x.toNatClampNeg)) = am_n S + 1 + x.toNatClampNeg := am_rows_n _ _ _ _ _ _
                have e2 : am_w (am_rows (am_n S) 102 y9.toNatClampNeg x.toNatClampNeg 0 (am_mk S 182 x.toNatClampNeg)) = am_w S + x.toNatClampNeg + x.toNatClampNeg * y9.toNatClampNeg := am_rows_w _ _ _ _ _ _
                rw [e1, e2] at hmn
                have hvk : am_vk 182 := by unfold am_vk; omega
                refine am_mna (ty := .long) (cA := dA 182) (cy := dA 102) (z := (y9.toNatClampNeg, .inr (.inl (fun _ => 0)))) hx hb hown (hin (lk_n_ok _ hm) rfl) hNW.2.2.2.2 (hin am_w_al rfl) (hK.2 8 (dA 182, .array .long) rfl).2 (hK.2 2 (dA 102, .long) rfl).2 hP hD hS hA hx0 hy0 (by omega) (by show y9.toNatClampNeg * 8 ≤ 536870912; omega) (by omega) rfl rfl (by omega) (by omega) (arrV_new _ _ _) hd (fun H1 hP1 hD1 hS1 => ?_)
                rw [am_wd_rowsE (dA := dA) (c0 := 182) (c := 102) (z := (y9.toNatClampNeg, .inr (.inl (fun _ => 0)))) hIv.2.2.2.2.2.2.2.1 (by omega) (by omega) hgn hx1 rfl] at hP1 hD1
                rw [show am_n S - n0 + 1 + x.toNatClampNeg = am_n (am_rows (am_n S) 102 y9.toNatClampNeg x.toNatClampNeg 0 (am_mk S 182 x.toNatClampNeg)) - n0 by rw [e1]; omega, show am_w S - w0 + x.toNatClampNeg + x.toNatClampNeg * y9.toNatClampNeg = am_w (am_rows (am_n S) 102 y9.toNatClampNeg x.toNatClampNeg 0 (am_mk S 182 x.toNatClampNeg)) - w0 by rw [e2]; omega, ← am_okl_tr (am_adr_ag (n := am_n S) (h := H.size) (ad := ad)) st hgs, show Value.ref H.size = am_tr (am_adr (am_n S) H.size ad) (.ref (am_n S)) by show _ = Value.ref (am_adr (am_n S) H.size ad (am_n S + 0)); rw [am_adr_at 0 (by omega) (by omega)]; rfl]
                exact go (st' := .ref (am_n S) :: st) h he (by rw [e1]; omega) (by rw [e2]; omega) am_adr_ag hP1 hD1 hS1 (am_Iv.rows (by unfold am_vk; omega) _ _ (hIv.mk hvk (by omega)) (by rw [e0]; omega)) (hl.ag am_adr_ag hgl)
              · exact am_noh h
            all_goals exact am_noh h
        all_goals exact am_noh h
    case monitorenter =>
      rcases st with _ | ⟨v0, st⟩
      · exact am_noh h
      · cases v0
        case ref a =>
          have h : (if am_cat st ≤ 8 then am_run f y n (i + 1) lo st S else none) = some r := h
          by_cases hc : am_cat st ≤ 8
          case neg => rw [if_neg hc] at h; exact am_noh h
          rw [if_pos hc] at h
          have hk : lk_o.contains (pg_ow y, q2) = true := hk
          have hm : (pg_ow y, q2) ∈ lk_o := by simpa using hk
          refine W.objInit hx hb hown (hin (lk_o_ok _ hm) rfl) (hin am_w_oi rfl) (hin am_w_oc rfl) rfl (by rw [hml]; exact hl.1) rfl hd (by omega) ?_ ?_
          · show 2 * 0 + ((st.map (am_tr ad)).map fun v => v.category).sum + 12 ≤ R.locals
            rw [am_cat_tr]
            omega
          refine W.eq (g2 := F0 m (am_P y i + 3) ls (st.map (am_tr ad))) rfl ?_
          exact gos h he hl
        all_goals exact am_noh h
    case monitorexit =>
      rcases st with _ | ⟨v0, st⟩
      · exact am_noh h
      · cases v0
        case int nn =>
          rcases st with _ | ⟨v1, st⟩
          · exact am_noh h
          · cases v1
            case int dp =>
              rcases st with _ | ⟨v2, st⟩
              · exact am_noh h
              · cases v2
                case ref b =>
                  rcases st with _ | ⟨v3, st⟩
                  · exact am_noh h
                  · cases v3
                    case int sp =>
                      rcases st with _ | ⟨v4, st⟩
                      · exact am_noh h
                      · cases v4
                        case ref a =>
                          have h : (if am_cat st ≤ 8 ∧ am_c S a = 100 ∧ am_c S b = 100 then
                                (if sp < 0 ∨ dp < 0 ∨ nn < 0 ∨ am_l S a < sp.toNatClampNeg + nn.toNatClampNeg ∨ am_l S b < dp.toNatClampNeg + nn.toNatClampNeg then none
                                else am_run f y n (i + 1) lo st (am_cp S a b sp.toNatClampNeg dp.toNatClampNeg nn.toNatClampNeg)) else none) = some r := h
                          by_cases hc : am_cat st ≤ 8 ∧ am_c S a = 100 ∧ am_c S b = 100
                          case neg => rw [if_neg hc] at h; exact am_noh h
                          rw [if_pos hc] at h
                          obtain ⟨hc8, hca, hcb⟩ := hc
                          by_cases hz : sp < 0 ∨ dp < 0 ∨ nn < 0 ∨ am_l S a < sp.toNatClampNeg + nn.toNatClampNeg ∨ am_l S b < dp.toNatClampNeg + nn.toNatClampNeg
                          · rw [if_pos hz] at h; exact am_noh h
                          rw [if_neg hz] at h
                          have hk : lk_a.contains (pg_ow y, q2) = true := hk
                          have hm : (pg_ow y, q2) ∈ lk_a := by simpa using hk
                          have hwa := am_wd_at (dA := dA) (ad := ad) (hIv.1 a (by omega)).1
                          have hwb := am_wd_at (dA := dA) (ad := ad) (hIv.1 b (by omega)).1
                          rw [am_ce_a hca (by decide), am_ac_i hca (by decide)] at hwa
                          rw [am_ce_a hcb (by decide), am_ac_i hcb (by decide)] at hwb
                          refine va_copyi hx hb (by rw [hml]; exact hl.1.symm) hown (hin (lk_a_ok _ hm) rfl) (hin am_w_cn rfl) (hin am_w_cs rfl) (hin am_w_ci rfl) hK hP hD hS a b 0 0 hwa hwb rfl rfl rfl (fun q => hz (Or.inl q)) (fun q => hz (Or.inr (Or.inl q))) (fun q => hz (Or.inr (Or.inr (Or.inl q)))) (Nat.not_lt.mp fun q => hz (Or.inr (Or.inr (Or.inr (Or.inl q))))) (Nat.not_lt.mp fun q => hz (Or.inr (Or.inr (Or.inr (Or.inr q))))) (fun _ _ => rfl) (by omega) ?_ hd (fun H1 locs1 hP1 hD1 hS1 => ?_)
                          · rw [am_cat_tr]
                            have : nativeFrameWords "java/lang/System" "arraycopy" 5 ≤ 100 := by decide +kernel
                            omega
                          rw [am_wd_cp hcb] at hP1 hD1
                          exact go (S' := am_cp S a b sp.toNatClampNeg dp.toNatClampNeg nn.toNatClampNeg) h he (Nat.le_refl _) (Nat.le_refl _) am_ag.rf hP1 hD1 hS1 (hIv.wi (by omega)) hl
                        all_goals exact am_noh h
                    all_goals exact am_noh h
                all_goals exact am_noh h
            all_goals exact am_noh h
        all_goals exact am_noh h
    case castore =>
      rcases st with _ | ⟨v0, st⟩
      · exact am_noh h
      · cases v0
        case ref a =>
          have h : (if am_cat st ≤ 8 ∧ am_c S a = 997 then am_run f y n (i + 1) lo (.int (am_i S (a + 1000000) 0) :: st) S else none) = some r := h
          by_cases hc : am_cat st ≤ 8 ∧ am_c S a = 997
          case neg => rw [if_neg hc] at h; exact am_noh h
          rw [if_pos hc] at h
          obtain ⟨i0, hi0, rfl⟩ := hIv.2.1 a hc.2
          have e1 : am_i S (4000000 + i0 + 1000000) 0 = nI (am_sl.getD i0 0) := by rw [show 4000000 + i0 + 1000000 = 5000000 + i0 by omega]; exact hIv.2.2.2.2.2.2.1 i0 hi0
          rw [e1] at h
          have hk : lk_t.contains (pg_ow y, q2, 0) = true := hk
          have hm : (pg_ow y, q2, 0) ∈ lk_t := am_mem_lk hk
          have hmn := am_mono hmo y _ _ _ _ _ _ h
          refine am_callp (a := #[]) (va_runV (As := []) (rest := st.map (am_tr ad)) (C := "java/lang/String") ⟨hx, hb, hml, hown, hts⟩ (hstr A ad adV L xs i0 hi0).1 (cwV 0 hts (am_gtl hm) rfl rfl rfl ⟨rfl, by decide, by decide, by decide +kernel⟩ ⟨by show 2 + 1 ≤ _; omega, by show 8 + (1 + 11) + 64 ≤ _; omega⟩) ⟨am_Eb, vk_recv hE.2.2.1 hi0 hS, fun U hU hW => ⟨rfl, by show am_E A ad adV L xs U U.heap; rw [hU]; exact (hE.kept hS.2.1).warm hW⟩⟩ rfl rfl hl.1 rfl (lv_room (by rw [am_cat_tr]; exact hc.1)) hd ⟨by omega, by omega⟩) hS (fun locs1 hS1 => ?_)
          exact go (st' := .int (nI (am_sl.getD i0 0)) :: st) h he (Nat.le_refl _) (Nat.le_refl _) am_ag.rf hP hD hS1 hIv hl
        all_goals exact am_noh h
    case caload =>
      rcases st with _ | ⟨v0, st⟩
      · exact am_noh h
      · cases v0
        case int x =>
          rcases st with _ | ⟨v1, st⟩
          · exact am_noh h
          · cases v1
            case ref a =>
              have h : (if am_cat st ≤ 8 ∧ am_c S a = 997 then (if x < 0 ∨ (am_i S (a + 1000000) 0).toNatClampNeg ≤ x.toNatClampNeg then none else am_run f y n (i + 1) lo (.int (am_i S a x.toNatClampNeg) :: st) S) else none) = some r := h
              by_cases hc : am_cat st ≤ 8 ∧ am_c S a = 997
              case neg => rw [if_neg hc] at h; exact am_noh h
              rw [if_pos hc] at h
              obtain ⟨i0, hi0, rfl⟩ := hIv.2.1 a hc.2
              have e1 : am_i S (4000000 + i0 + 1000000) 0 = nI (am_sl.getD i0 0) := by rw [show 4000000 + i0 + 1000000 = 5000000 + i0 by omega]; exact hIv.2.2.2.2.2.2.1 i0 hi0
              rw [e1, nI_clamp (am_sl_lt i0)] at h
              by_cases hxi : x < 0 ∨ am_sl.getD i0 0 ≤ x.toNatClampNeg
              · rw [if_pos hxi] at h; exact am_noh h
              rw [if_neg hxi] at h
              obtain ⟨k0, hk31, rfl⟩ := nI_of (fun z => hxi (Or.inl z))
              rw [nI_clamp hk31] at h hxi
              have hk0 : k0 < am_sl.getD i0 0 := Nat.not_le.mp fun z => hxi (Or.inr z)
              rw [hIv.2.2.2.2.2.1 i0 hi0 k0 hk0] at h
              have hk : lk_t.contains (pg_ow y, q2, 1) = true := hk
              have hm : (pg_ow y, q2, 1) ∈ lk_t := am_mem_lk hk
              have hmn := am_mono hmo y _ _ _ _ _ _ h
              refine am_callp (a := #[]) (va_runV (As := [.int (nI k0)]) (rest := st.map (am_tr ad)) (C := "java/lang/String") ⟨hx, hb, hml, hown, hts⟩ ((hstr A ad adV L xs i0 hi0).2 k0 hk0) (cwV 1 hts (am_gtc hm) rfl rfl rfl ⟨rfl, by decide, by decide, by decide +kernel⟩ ⟨by show 6 + 1 ≤ _; omega, by show 8 + (2 + 11) + 256 ≤ _; omega⟩) ⟨am_Eb, vk_recv hE.2.2.1 hi0 hS, fun U hU hW => ⟨rfl, by show am_E A ad adV L xs U U.heap; rw [hU]; exact (hE.kept hS.2.1).warm hW⟩⟩ rfl rfl hl.1 rfl (lv_room (by rw [am_cat_tr]; exact hc.1)) hd ⟨by omega, by omega⟩) hS (fun locs1 hS1 => ?_)
              exact go (st' := .int ((am_bt.getD i0 []).getD k0 0) :: st) h he (Nat.le_refl _) (Nat.le_refl _) am_ag.rf hP hD hS1 hIv hl
            all_goals exact am_noh h
        all_goals exact am_noh h
    case invokestatic z =>
      have h : (if am_cat (st.drop (pg_sg z).1) ≤ 8 ∧ (st.take (pg_sg z).1).length = (pg_sg z).1 then (match (pg_sg z).2 with
            | 0 => am_bV (f z (st.take (pg_sg z).1).reverse S) fun S => am_run f y n (i + 1) lo (st.drop (pg_sg z).1) S
            | 1 => am_bI (f z (st.take (pg_sg z).1).reverse S) fun x S => am_run f y n (i + 1) lo (.int x :: st.drop (pg_sg z).1) S
            | 2 => am_bJ (f z (st.take (pg_sg z).1).reverse S) fun x S => am_run f y n (i + 1) lo (.long x :: st.drop (pg_sg z).1) S
            | _ => am_bA (f z (st.take (pg_sg z).1).reverse S) fun x S => am_run f y n (i + 1) lo (.ref x :: st.drop (pg_sg z).1) S) else none) = some r := h
      by_cases hc : am_cat (st.drop (pg_sg z).1) ≤ 8 ∧ (st.take (pg_sg z).1).length = (pg_sg z).1
      case neg => rw [if_neg hc] at h; exact am_noh h
      rw [if_pos hc] at h
      obtain ⟨v, S', hfz, hrun⟩ := am_ca_spec (K := fun st S => am_run f y n (i + 1) lo st S) h
      obtain ⟨hc8, hclen⟩ := hc
      have hsplit : st.map (am_tr ad) = (st.take (pg_sg z).1).map (am_tr ad) ++ (st.drop (pg_sg z).1).map (am_tr ad) := by rw [← List.map_append, List.take_append_drop]
      rw [hsplit]
      generalize st.take (pg_sg z).1 = tk at hfz hclen
      generalize st.drop (pg_sg z).1 = dr at hc8 hrun
      have hmz := hmo _ _ _ _ _ hfz
      have hmn := am_mono hmo y _ _ _ _ _ _ hrun
      have hM := hf _ _ _ _ _ hfz
      rcases q1 with _ | _ | q1
      · have hk : (am_cok z false && lk_m.contains (pg_ow y, q2, z) && ((pg_nm z).name != "<init>") && decide (pg_ow z < 13)) = true := hk
        simp only [Bool.and_eq_true, decide_eq_true_eq] at hk
        obtain ⟨⟨⟨hk1, hk2⟩, hk3⟩, hk4⟩ := hk
        have hn' := hnc _ _ _ _ _ (Or.inr ⟨hk1, hk3⟩) hfz
        obtain ⟨b, As, has, hb1⟩ := hrc _ _ _ _ _ hfz (am_cok_spec hk1).2.1
        have htk : tk = As.reverse ++ [.ref b] := by rw [← List.reverse_reverse tk, has, List.reverse_cons]
        subst htk
        rw [has] at hM
        rw [show (As.reverse ++ [Value.ref b]).map (am_tr ad) ++ dr.map (am_tr ad) = (As.map (am_tr ad)).reverse ++ .ref (ad b) :: dr.map (am_tr ad) by rw [List.map_append, List.map_reverse, List.append_assoc]; rfl]
        refine am_cl0 hC hM hL31 (am_mem_lk hk2) hk1 (by simpa using hk3) hk4 hb1 (by rw [← hclen]; simp) hP hD hS hIv hE hl.1 hc8 hd hR1 hR2 ⟨by omega, by omega⟩ (fun ad' H1 locs1 hg hP1 hD1 hS1 hI1 hr1 => ?_)
        rw [am_wd_ag (by rw [hn']; exact hg) hI1.2.2.2.2.2.2.2.1] at hP1 hD1
        rw [show (v.map (am_tr ad')).toList ++ dr.map (am_tr ad) = (v.toList ++ dr).map (am_tr ad) from am_ans hg hr1 dr, show am_n S - n0 + (am_n S' - am_n S) = am_n S' - n0 by omega, show am_w S - w0 + (am_w S' - am_w S) = am_w S' - w0 by omega]
        exact go hrun he hmz.1 hmz.2 am_ag.rf hP1 hD1 hS1 hI1 hl

      · have hk : (am_cok z true && lk_m.contains (pg_ow y, q2, z)) = true := hk
        simp only [Bool.and_eq_true] at hk
        have hn' := hnc _ _ _ _ _ (Or.inl hk.1) hfz
        rw [show tk.map (am_tr ad) ++ dr.map (am_tr ad) = (tk.reverse.map (am_tr ad)).reverse ++ dr.map (am_tr ad) by rw [List.map_reverse, List.reverse_reverse]]
        refine am_cl1 hC hM hL31 (am_mem_lk hk.2) hk.1 (by rw [List.length_reverse]; exact hclen) hP hD hS hIv hE hl.1 hc8 hd hR1 hR2 ⟨by omega, by omega⟩ (fun ad' H1 locs1 hg hP1 hD1 hS1 hI1 hr1 => ?_)
        rw [am_wd_ag (by rw [hn']; exact hg) hI1.2.2.2.2.2.2.2.1] at hP1 hD1
        rw [show (v.map (am_tr ad')).toList ++ dr.map (am_tr ad) = (v.toList ++ dr).map (am_tr ad) from am_ans hg hr1 dr, show am_n S - n0 + (am_n S' - am_n S) = am_n S' - n0 by omega, show am_w S - w0 + (am_w S' - am_w S) = am_w S' - w0 by omega]
        exact go hrun he hmz.1 hmz.2 am_ag.rf hP1 hD1 hS1 hI1 hl

      · have hk : (am_cok z true && lk_nm.contains (pg_ow y, q2, z, 11)) = true := hk
        simp only [Bool.and_eq_true] at hk
        have hn' := hnc _ _ _ _ _ (Or.inl hk.1) hfz
        rw [show tk.map (am_tr ad) ++ dr.map (am_tr ad) = (tk.reverse.map (am_tr ad)).reverse ++ dr.map (am_tr ad) by rw [List.map_reverse, List.reverse_reverse]]
        refine am_cl2 hC hM hL31 (by simpa using hk.2) hk.1 (by rw [List.length_reverse]; exact hclen) hP hD hS hIv hE hl.1 hc8 hd hR1 hR2 ⟨by omega, by omega⟩ (fun ad' H1 locs1 hg hP1 hD1 hS1 hI1 hr1 => ?_)
        rw [am_wd_ag (by rw [hn']; exact hg) hI1.2.2.2.2.2.2.2.1] at hP1 hD1
        rw [show (v.map (am_tr ad')).toList ++ dr.map (am_tr ad) = (v.toList ++ dr).map (am_tr ad) from am_ans hg hr1 dr, show am_n S - n0 + (am_n S' - am_n S) = am_n S' - n0 by omega, show am_w S - w0 + (am_w S' - am_w S) = am_w S' - w0 by omega]
        exact go hrun he hmz.1 hmz.2 am_ag.rf hP1 hD1 hS1 hI1 hl
    case invokespecial z =>
      have h : (if am_gd S lo (st.drop (pg_sg z).1) = true ∧ am_cat (st.drop (pg_sg z).1) ≤ 8 ∧ (st.take (pg_sg z).1).length = (pg_sg z).1 ∧ (pg_sg z).2 = 0 then am_bV (f z (st.take (pg_sg z).1).reverse S) (fun S => am_run f y n (i + 1) lo (st.drop (pg_sg z).1) S) else none) = some r := h
      by_cases hc : am_gd S lo (st.drop (pg_sg z).1) = true ∧ am_cat (st.drop (pg_sg z).1) ≤ 8 ∧ (st.take (pg_sg z).1).length = (pg_sg z).1 ∧ (pg_sg z).2 = 0
      case neg => rw [if_neg hc] at h; exact am_noh h
      rw [if_pos hc] at h
      obtain ⟨hg0, hc8, hclen, -⟩ := hc
      obtain ⟨hgn, hgl, hgs⟩ := am_gd_spec hg0
      obtain ⟨S', hfz, hrun⟩ := am_bV_spec h
      have hsplit : st.map (am_tr ad) = (st.take (pg_sg z).1).map (am_tr ad) ++ (st.drop (pg_sg z).1).map (am_tr ad) := by rw [← List.map_append, List.take_append_drop]
      rw [hsplit]
      clear h
      generalize st.take (pg_sg z).1 = tk at hfz hclen
      generalize st.drop (pg_sg z).1 = dr at hc8 hrun hgs hg0
      have hmz := hmo _ _ _ _ _ hfz
      have hmn := am_mono hmo y _ _ _ _ _ _ hrun
      have hM := hf _ _ _ _ _ hfz
      have hk : (am_cok z false && ((pg_nm z).name == "<init>") && (pg_rt z == none) && (match (generalizing := false) q1 with
            | 2 => lk_m.contains (pg_ow y, q2, z)
            | _ => lk_nm.contains (pg_ow y, q2, z, 11))) = true := hk
      simp only [Bool.and_eq_true] at hk
      obtain ⟨⟨⟨hk1, hk2⟩, hk3⟩, hk4⟩ := hk
      have hk2 : (pg_nm z).name = "<init>" := by simpa using hk2
      have hk3 : pg_rt z = none := by simpa using hk3
      obtain ⟨b, As, has, hb1⟩ := hrc _ _ _ _ _ hfz (am_cok_spec hk1).2.1
      have htk : tk = As.reverse ++ [.ref b] := by rw [← List.reverse_reverse tk, has, List.reverse_cons]
      subst htk
      rw [has] at hM
      rw [show (As.reverse ++ [Value.ref b]).map (am_tr ad) ++ dr.map (am_tr ad) = (As.map (am_tr ad)).reverse ++ .ref (ad b) :: dr.map (am_tr ad) by rw [List.map_append, List.map_reverse, List.append_assoc]; rfl]
      have fin : ∀ (ad' : Nat → Nat) (H1 : Heap) (locs1 : List Loc), am_ag (am_n S) ad ad' → va_P D vwCl (am_wd dA ad' S') H1 → va_D A (am_wd dA ad' S') → va_S A s.heap H1 locs1 → am_Iv L xs S' → (∀ x, (none : Option Value) = some (.ref x) → 2000000 ≤ x) → W p l e R s m args below meth c H1 locs1 (am_n S - n0 + (am_n S' - am_n S)) (am_w S - w0 + (am_w S' - am_w S)) Q (F0 m (am_P y i + 3) ls (((none : Option Value).map (am_tr ad')).toList ++ dr.map (am_tr ad))) := by
        intro ad' H1 locs1 hg hP1 hD1 hS1 hI1 hr1
        rw [show ((none : Option Value).map (am_tr ad')).toList ++ dr.map (am_tr ad) = dr.map (am_tr ad') from (am_okl_tr hg dr hgs).symm, show am_n S - n0 + (am_n S' - am_n S) = am_n S' - n0 by omega, show am_w S - w0 + (am_w S' - am_w S) = am_w S' - w0 by omega]
        exact go hrun he hmz.1 hmz.2 hg hP1 hD1 hS1 hI1 (hl.ag hg hgl)
      by_cases hq : q1 = 2
      · subst hq
        exact am_cl3 hC hM hL31 (am_mem_lk hk4) hk1 hk2 hk3 (by rw [← hclen]; simp) hP hD hS hIv hE hl.1 hc8 hd hR1 hR2 ⟨by omega, by omega⟩ fin
      · have hk4 : lk_nm.contains (pg_ow y, q2, z, 11) = true := by
          split at hk4
          · exact absurd rfl hq
          · exact hk4
        exact am_cl4 hC hM hL31 (by simpa using hk4) hk1 hk2 hk3 (by rw [← hclen]; simp) hP hD hS hIv hE hl.1 hc8 hd hR1 hR2 ⟨by omega, by omega⟩ fin
    case ireturn =>
      rcases st with _ | ⟨v, _ | ⟨w, st⟩⟩
      · exact am_noh h
      · cases v
        case int x =>
          cases (show some (some (.int x), S) = some r from h)
          exact hI _ _ _ _ _ _ _ hd (by have hk : (pg_rt y == some .int) = true := hk; simpa using hk) rfl hag hPt'
        all_goals exact am_noh h
      · cases v <;> exact am_noh h
    case freturn =>
      rcases st with _ | ⟨v, _ | ⟨w, st⟩⟩
      · exact am_noh h
      · cases v
        case int x =>
          have h : (if x = 0 ∨ x = 1 then some (some (.int x), S) else none) = some r := h
          by_cases hx01 : x = 0 ∨ x = 1
          case neg => rw [if_neg hx01] at h; exact am_noh h
          rw [if_pos hx01] at h
          cases h
          exact hZ _ _ _ _ _ _ _ hd (by have hk : (pg_rt y == some .boolean) = true := hk; simpa using hk) hx01 rfl hag hPt'
        all_goals exact am_noh h
      · cases v <;> exact am_noh h
    case lreturn =>
      rcases st with _ | ⟨v, _ | ⟨w, st⟩⟩
      · exact am_noh h
      · cases v
        case long x =>
          cases (show some (some (.long x), S) = some r from h)
          exact hJ _ _ _ _ _ _ _ hd (by have hk : (pg_rt y == some .long) = true := hk; simpa using hk) rfl hag hPt'
        all_goals exact am_noh h
      · cases v <;> exact am_noh h
    case areturn =>
      rcases st with _ | ⟨v, _ | ⟨w, st⟩⟩
      · exact am_noh h
      · cases v
        case ref x =>
          have h : (if 2000000 ≤ x then some (some (.ref x), S) else none) = some r := h
          by_cases hx2 : 2000000 ≤ x
          case neg => rw [if_neg hx2] at h; exact am_noh h
          rw [if_pos hx2] at h
          cases h
          have hk : (match pg_rt y with | some (.object _) => true | _ => false) = true := hk
          refine hO _ _ _ _ _ _ _ hd ?_ hx2 rfl hag hPt'
          split at hk
          case h_1 t ht => exact ⟨t, ht⟩
          case h_2 => cases hk
        all_goals exact am_noh h
      · cases v <;> exact am_noh h
    case return_ =>
      rcases st with _ | ⟨v, st⟩
      · cases (show some ((none : Option Value), S) = some r from h)
        exact hV _ _ _ _ _ _ hd (by have hk : (pg_rt y == none) = true := hk; simpa using hk) rfl hag hPt'
      · exact am_noh h
    all_goals exact am_noh h
end SND
end
section
/-! ===== every call of the small machine is the machine's ===== -/
theorem pg_okc_0 (y : Nat) (h1 : 0 ≤ y) (h2 : y < 16) : am_chk y = true := by
  rcases (show y = 0 ∨ y = 1 ∨ y = 2 ∨ y = 3 ∨ y = 4 ∨ y = 5 ∨ y = 6 ∨ y = 7 ∨ y = 8 ∨ y = 9 ∨ y = 10 ∨ y = 11 ∨ y = 12 ∨ y = 13 ∨ y = 14 ∨ y = 15 by omega) with rfl | rfl | rfl | rfl | rfl | rfl | rfl | rfl | rfl | rfl | rfl | rfl | rfl | rfl | rfl | rfl
  · exact pg_ok_0
  · exact pg_ok_1
  · exact pg_ok_2
  · exact pg_ok_3
  · exact pg_ok_4
  · exact pg_ok_5
  · exact pg_ok_6
  · exact pg_ok_7
  · exact pg_ok_8
  · exact pg_ok_9
  · exact pg_ok_10
  · exact pg_ok_11
  · exact pg_ok_12
  · exact pg_ok_13
  · exact pg_ok_14
  · exact pg_ok_15
theorem pg_okc_1 (y : Nat) (h1 : 16 ≤ y) (h2 : y < 32) : am_chk y = true := by
  rcases (show y = 16 ∨ y = 17 ∨ y = 18 ∨ y = 19 ∨ y = 20 ∨ y = 21 ∨ y = 22 ∨ y = 23 ∨ y = 24 ∨ y = 25 ∨ y = 26 ∨ y = 27 ∨ y = 28 ∨ y = 29 ∨ y = 30 ∨ y = 31 by omega) with rfl | rfl | rfl | rfl | rfl | rfl | rfl | rfl | rfl | rfl | rfl | rfl | rfl | rfl | rfl | rfl
  · exact pg_ok_16
  · exact pg_ok_17
  · exact pg_ok_18
  · exact pg_ok_19
  · exact pg_ok_20
  · exact pg_ok_21
  · exact pg_ok_22
  · exact pg_ok_23
  · exact pg_ok_24
  · exact pg_ok_25
  · exact pg_ok_26
  · exact pg_ok_27
  · exact pg_ok_28
  · exact pg_ok_29
  · exact pg_ok_30
  · exact pg_ok_31
theorem pg_okc_2 (y : Nat) (h1 : 32 ≤ y) (h2 : y < 48) : am_chk y = true := by
  rcases (show y = 32 ∨ y = 33 ∨ y = 34 ∨ y = 35 ∨ y = 36 ∨ y = 37 ∨ y = 38 ∨ y = 39 ∨ y = 40 ∨ y = 41 ∨ y = 42 ∨ y = 43 ∨ y = 44 ∨ y = 45 ∨ y = 46 ∨ y = 47 by omega) with rfl | rfl | rfl | rfl | rfl | rfl | rfl | rfl | rfl | rfl | rfl | rfl | rfl | rfl | rfl | rfl
  · exact pg_ok_32
  · exact pg_ok_33
  · exact pg_ok_34
  · exact pg_ok_35
  · exact pg_ok_36
  · exact pg_ok_37
  · exact pg_ok_38
  · exact pg_ok_39
  · exact pg_ok_40
  · exact pg_ok_41
  · exact pg_ok_42
  · exact pg_ok_43
  · exact pg_ok_44
  · exact pg_ok_45
  · exact pg_ok_46
  · exact pg_ok_47
theorem pg_okc_3 (y : Nat) (h1 : 48 ≤ y) (h2 : y < 64) : am_chk y = true := by
  rcases (show y = 48 ∨ y = 49 ∨ y = 50 ∨ y = 51 ∨ y = 52 ∨ y = 53 ∨ y = 54 ∨ y = 55 ∨ y = 56 ∨ y = 57 ∨ y = 58 ∨ y = 59 ∨ y = 60 ∨ y = 61 ∨ y = 62 ∨ y = 63 by omega) with rfl | rfl | rfl | rfl | rfl | rfl | rfl | rfl | rfl | rfl | rfl | rfl | rfl | rfl | rfl | rfl
  · exact pg_ok_48
  · exact pg_ok_49
  · exact pg_ok_50
  · exact pg_ok_51
  · exact pg_ok_52
  · exact pg_ok_53
  · exact pg_ok_54
  · exact pg_ok_55
  · exact pg_ok_56
  · exact pg_ok_57
  · exact pg_ok_58
  · exact pg_ok_59
  · exact pg_ok_60
  · exact pg_ok_61
  · exact pg_ok_62
  · exact pg_ok_63
theorem pg_okc_4 (y : Nat) (h1 : 64 ≤ y) (h2 : y < 80) : am_chk y = true := by
  rcases (show y = 64 ∨ y = 65 ∨ y = 66 ∨ y = 67 ∨ y = 68 ∨ y = 69 ∨ y = 70 ∨ y = 71 ∨ y = 72 ∨ y = 73 ∨ y = 74 ∨ y = 75 ∨ y = 76 ∨ y = 77 ∨ y = 78 ∨ y = 79 by omega) with rfl | rfl | rfl | rfl | rfl | rfl | rfl | rfl | rfl | rfl | rfl | rfl | rfl | rfl | rfl | rfl
  · exact pg_ok_64
  · exact pg_ok_65
  · exact pg_ok_66
  · exact pg_ok_67
  · exact pg_ok_68
  · exact pg_ok_69
  · exact pg_ok_70
  · exact pg_ok_71
  · exact pg_ok_72
  · exact pg_ok_73
  · exact pg_ok_74
  · exact pg_ok_75
  · exact pg_ok_76
  · exact pg_ok_77
  · exact pg_ok_78
  · exact pg_ok_79
theorem pg_okc_5 (y : Nat) (h1 : 80 ≤ y) (h2 : y < 96) : am_chk y = true := by
  rcases (show y = 80 ∨ y = 81 ∨ y = 82 ∨ y = 83 ∨ y = 84 ∨ y = 85 ∨ y = 86 ∨ y = 87 ∨ y = 88 ∨ y = 89 ∨ y = 90 ∨ y = 91 ∨ y = 92 ∨ y = 93 ∨ y = 94 ∨ y = 95 by omega) with rfl | rfl | rfl | rfl | rfl | rfl | rfl | rfl | rfl | rfl | rfl | rfl | rfl | rfl | rfl | rfl
  · exact pg_ok_80
  · exact pg_ok_81
  · exact pg_ok_82
  · exact pg_ok_83
  · exact pg_ok_84
  · exact pg_ok_85
  · exact pg_ok_86
  · exact pg_ok_87
  · exact pg_ok_88
  · exact pg_ok_89
  · exact pg_ok_90
  · exact pg_ok_91
  · exact pg_ok_92
  · exact pg_ok_93
  · exact pg_ok_94
  · exact pg_ok_95
theorem pg_okc_6 (y : Nat) (h1 : 96 ≤ y) (h2 : y < 112) : am_chk y = true := by
  rcases (show y = 96 ∨ y = 97 ∨ y = 98 ∨ y = 99 ∨ y = 100 ∨ y = 101 ∨ y = 102 ∨ y = 103 ∨ y = 104 ∨ y = 105 ∨ y = 106 ∨ y = 107 ∨ y = 108 ∨ y = 109 ∨ y = 110 ∨ y = 111 by omega) with rfl | rfl | rfl | rfl | rfl | rfl | rfl | rfl | rfl | rfl | rfl | rfl | rfl | rfl | rfl | rfl
  · exact pg_ok_96
  · exact pg_ok_97
  · exact pg_ok_98
  · exact pg_ok_99
  · exact pg_ok_100
  · exact pg_ok_101
  · exact pg_ok_102
  · exact pg_ok_103
  · exact pg_ok_104
  · exact pg_ok_105
  · exact pg_ok_106
  · exact pg_ok_107
  · exact pg_ok_108
  · exact pg_ok_109
  · exact pg_ok_110
  · exact pg_ok_111
theorem pg_okc_7 (y : Nat) (h1 : 112 ≤ y) (h2 : y < 128) : am_chk y = true := by
  rcases (show y = 112 ∨ y = 113 ∨ y = 114 ∨ y = 115 ∨ y = 116 ∨ y = 117 ∨ y = 118 ∨ y = 119 ∨ y = 120 ∨ y = 121 ∨ y = 122 ∨ y = 123 ∨ y = 124 ∨ y = 125 ∨ y = 126 ∨ y = 127 by omega) with rfl | rfl | rfl | rfl | rfl | rfl | rfl | rfl | rfl | rfl | rfl | rfl | rfl | rfl | rfl | rfl
  · exact pg_ok_112
  · exact pg_ok_113
  · exact pg_ok_114
  · exact pg_ok_115
  · exact pg_ok_116
  · exact pg_ok_117
  · exact pg_ok_118
  · exact pg_ok_119
  · exact pg_ok_120
  · exact pg_ok_121
  · exact pg_ok_122
  · exact pg_ok_123
  · exact pg_ok_124
  · exact pg_ok_125
  · exact pg_ok_126
  · exact pg_ok_127
theorem pg_okc_8 (y : Nat) (h1 : 128 ≤ y) (h2 : y < 144) : am_chk y = true := by
  rcases (show y = 128 ∨ y = 129 ∨ y = 130 ∨ y = 131 ∨ y = 132 ∨ y = 133 ∨ y = 134 ∨ y = 135 ∨ y = 136 ∨ y = 137 ∨ y = 138 ∨ y = 139 ∨ y = 140 ∨ y = 141 ∨ y = 142 ∨ y = 143 by omega) with rfl | rfl | rfl | rfl | rfl | rfl | rfl | rfl | rfl | rfl | rfl | rfl | rfl | rfl | rfl | rfl
  · exact pg_ok_128
  · exact pg_ok_129
  · exact pg_ok_130
  · exact pg_ok_131
  · exact pg_ok_132
  · exact pg_ok_133
  · exact pg_ok_134
  · exact pg_ok_135
  · exact pg_ok_136
  · exact pg_ok_137
  · exact pg_ok_138
  · exact pg_ok_139
  · exact pg_ok_140
  · exact pg_ok_141
  · exact pg_ok_142
  · exact pg_ok_143
theorem pg_okc_9 (y : Nat) (h1 : 144 ≤ y) (h2 : y < 160) : am_chk y = true := by
  rcases (show y = 144 ∨ y = 145 ∨ y = 146 ∨ y = 147 ∨ y = 148 ∨ y = 149 ∨ y = 150 ∨ y = 151 ∨ y = 152 ∨ y = 153 ∨ y = 154 ∨ y = 155 ∨ y = 156 ∨ y = 157 ∨ y = 158 ∨ y = 159 by omega) with rfl | rfl | rfl | rfl | rfl | rfl | rfl | rfl | rfl | rfl | rfl | rfl | rfl | rfl | rfl | rfl
  · exact pg_ok_144
  · exact pg_ok_145
  · exact pg_ok_146
  · exact pg_ok_147
  · exact pg_ok_148
  · exact pg_ok_149
  · exact pg_ok_150
  · exact pg_ok_151
  · exact pg_ok_152
  · exact pg_ok_153
  · exact pg_ok_154
  · exact pg_ok_155
  · exact pg_ok_156
  · exact pg_ok_157
  · exact pg_ok_158
  · exact pg_ok_159
theorem pg_okc_10 (y : Nat) (h1 : 160 ≤ y) (h2 : y < 176) : am_chk y = true := by
  rcases (show y = 160 ∨ y = 161 ∨ y = 162 ∨ y = 163 ∨ y = 164 ∨ y = 165 ∨ y = 166 ∨ y = 167 ∨ y = 168 ∨ y = 169 ∨ y = 170 ∨ y = 171 ∨ y = 172 ∨ y = 173 ∨ y = 174 ∨ y = 175 by omega) with rfl | rfl | rfl | rfl | rfl | rfl | rfl | rfl | rfl | rfl | rfl | rfl | rfl | rfl | rfl | rfl
  · exact pg_ok_160
  · exact pg_ok_161
  · exact pg_ok_162
  · exact pg_ok_163
  · exact pg_ok_164
  · exact pg_ok_165
  · exact pg_ok_166
  · exact pg_ok_167
  · exact pg_ok_168
  · exact pg_ok_169
  · exact pg_ok_170
  · exact pg_ok_171
  · exact pg_ok_172
  · exact pg_ok_173
  · exact pg_ok_174
  · exact pg_ok_175
theorem pg_okc_11 (y : Nat) (h1 : 176 ≤ y) (h2 : y < 192) : am_chk y = true := by
  rcases (show y = 176 ∨ y = 177 ∨ y = 178 ∨ y = 179 ∨ y = 180 ∨ y = 181 ∨ y = 182 ∨ y = 183 ∨ y = 184 ∨ y = 185 ∨ y = 186 ∨ y = 187 ∨ y = 188 ∨ y = 189 ∨ y = 190 ∨ y = 191 by omega) with rfl | rfl | rfl | rfl | rfl | rfl | rfl | rfl | rfl | rfl | rfl | rfl | rfl | rfl | rfl | rfl
  · exact pg_ok_176
  · exact pg_ok_177
  · exact pg_ok_178
  · exact pg_ok_179
  · exact pg_ok_180
  · exact pg_ok_181
  · exact pg_ok_182
  · exact pg_ok_183
  · exact pg_ok_184
  · exact pg_ok_185
  · exact pg_ok_186
  · exact pg_ok_187
  · exact pg_ok_188
  · exact pg_ok_189
  · exact pg_ok_190
  · exact pg_ok_191
theorem pg_okc_12 (y : Nat) (h1 : 192 ≤ y) (h2 : y < 208) : am_chk y = true := by
  rcases (show y = 192 ∨ y = 193 ∨ y = 194 ∨ y = 195 ∨ y = 196 ∨ y = 197 ∨ y = 198 ∨ y = 199 ∨ y = 200 ∨ y = 201 ∨ y = 202 ∨ y = 203 ∨ y = 204 ∨ y = 205 ∨ y = 206 ∨ y = 207 by omega) with rfl | rfl | rfl | rfl | rfl | rfl | rfl | rfl | rfl | rfl | rfl | rfl | rfl | rfl | rfl | rfl
  · exact pg_ok_192
  · exact pg_ok_193
  · exact pg_ok_194
  · exact pg_ok_195
  · exact pg_ok_196
  · exact pg_ok_197
  · exact pg_ok_198
  · exact pg_ok_199
  · exact pg_ok_200
  · exact pg_ok_201
  · exact pg_ok_202
  · exact pg_ok_203
  · exact pg_ok_204
  · exact pg_ok_205
  · exact pg_ok_206
  · exact pg_ok_207
theorem pg_okc_13 (y : Nat) (h1 : 208 ≤ y) (h2 : y < 224) : am_chk y = true := by
  rcases (show y = 208 ∨ y = 209 ∨ y = 210 ∨ y = 211 ∨ y = 212 ∨ y = 213 ∨ y = 214 ∨ y = 215 ∨ y = 216 ∨ y = 217 ∨ y = 218 ∨ y = 219 ∨ y = 220 ∨ y = 221 ∨ y = 222 ∨ y = 223 by omega) with rfl | rfl | rfl | rfl | rfl | rfl | rfl | rfl | rfl | rfl | rfl | rfl | rfl | rfl | rfl | rfl
  · exact pg_ok_208
  · exact pg_ok_209
  · exact pg_ok_210
  · exact pg_ok_211
  · exact pg_ok_212
  · exact pg_ok_213
  · exact pg_ok_214
  · exact pg_ok_215
  · exact pg_ok_216
  · exact pg_ok_217
  · exact pg_ok_218
  · exact pg_ok_219
  · exact pg_ok_220
  · exact pg_ok_221
  · exact pg_ok_222
  · exact pg_ok_223
theorem pg_okc_14 (y : Nat) (h1 : 224 ≤ y) (h2 : y < 240) : am_chk y = true := by
  rcases (show y = 224 ∨ y = 225 ∨ y = 226 ∨ y = 227 ∨ y = 228 ∨ y = 229 ∨ y = 230 ∨ y = 231 ∨ y = 232 ∨ y = 233 ∨ y = 234 ∨ y = 235 ∨ y = 236 ∨ y = 237 ∨ y = 238 ∨ y = 239 by omega) with rfl | rfl | rfl | rfl | rfl | rfl | rfl | rfl | rfl | rfl | rfl | rfl | rfl | rfl | rfl | rfl
  · exact pg_ok_224
  · exact pg_ok_225
  · exact pg_ok_226
  · exact pg_ok_227
  · exact pg_ok_228
  · exact pg_ok_229
  · exact pg_ok_230
  · exact pg_ok_231
  · exact pg_ok_232
  · exact pg_ok_233
  · exact pg_ok_234
  · exact pg_ok_235
  · exact pg_ok_236
  · exact pg_ok_237
  · exact pg_ok_238
  · exact pg_ok_239
theorem pg_okc_15 (y : Nat) (h1 : 240 ≤ y) (h2 : y < 256) : am_chk y = true := by
  rcases (show y = 240 ∨ y = 241 ∨ y = 242 ∨ y = 243 ∨ y = 244 ∨ y = 245 ∨ y = 246 ∨ y = 247 ∨ y = 248 ∨ y = 249 ∨ y = 250 ∨ y = 251 ∨ y = 252 ∨ y = 253 ∨ y = 254 ∨ y = 255 by omega) with rfl | rfl | rfl | rfl | rfl | rfl | rfl | rfl | rfl | rfl | rfl | rfl | rfl | rfl | rfl | rfl
  · exact pg_ok_240
  · exact pg_ok_241
  · exact pg_ok_242
  · exact pg_ok_243
  · exact pg_ok_244
  · exact pg_ok_245
  · exact pg_ok_246
  · exact pg_ok_247
  · exact pg_ok_248
  · exact pg_ok_249
  · exact pg_ok_250
  · exact pg_ok_251
  · exact pg_ok_252
  · exact pg_ok_253
  · exact pg_ok_254
  · exact pg_ok_255
theorem pg_okc_16 (y : Nat) (h1 : 256 ≤ y) (h2 : y < 272) : am_chk y = true := by
  rcases (show y = 256 ∨ y = 257 ∨ y = 258 ∨ y = 259 ∨ y = 260 ∨ y = 261 ∨ y = 262 ∨ y = 263 ∨ y = 264 ∨ y = 265 ∨ y = 266 ∨ y = 267 ∨ y = 268 ∨ y = 269 ∨ y = 270 ∨ y = 271 by omega) with rfl | rfl | rfl | rfl | rfl | rfl | rfl | rfl | rfl | rfl | rfl | rfl | rfl | rfl | rfl | rfl
  · exact pg_ok_256
  · exact pg_ok_257
  · exact pg_ok_258
  · exact pg_ok_259
  · exact pg_ok_260
  · exact pg_ok_261
  · exact pg_ok_262
  · exact pg_ok_263
  · exact pg_ok_264
  · exact pg_ok_265
  · exact pg_ok_266
  · exact pg_ok_267
  · exact pg_ok_268
  · exact pg_ok_269
  · exact pg_ok_270
  · exact pg_ok_271
theorem pg_okc_17 (y : Nat) (h1 : 272 ≤ y) (h2 : y < 274) : am_chk y = true := by
  rcases (show y = 272 ∨ y = 273 by omega) with rfl | rfl
  · exact pg_ok_272
  · exact pg_ok_273
theorem pg_ok_all (y : Nat) (h : y < 274) : am_chk y = true := by
  by_cases h0 : y < 16
  · exact pg_okc_0 y (by omega) h0
  by_cases h1 : y < 32
  · exact pg_okc_1 y (by omega) h1
  by_cases h2 : y < 48
  · exact pg_okc_2 y (by omega) h2
  by_cases h3 : y < 64
  · exact pg_okc_3 y (by omega) h3
  by_cases h4 : y < 80
  · exact pg_okc_4 y (by omega) h4
  by_cases h5 : y < 96
  · exact pg_okc_5 y (by omega) h5
  by_cases h6 : y < 112
  · exact pg_okc_6 y (by omega) h6
  by_cases h7 : y < 128
  · exact pg_okc_7 y (by omega) h7
  by_cases h8 : y < 144
  · exact pg_okc_8 y (by omega) h8
  by_cases h9 : y < 160
  · exact pg_okc_9 y (by omega) h9
  by_cases h10 : y < 176
  · exact pg_okc_10 y (by omega) h10
  by_cases h11 : y < 192
  · exact pg_okc_11 y (by omega) h11
  by_cases h12 : y < 208
  · exact pg_okc_12 y (by omega) h12
  by_cases h13 : y < 224
  · exact pg_okc_13 y (by omega) h13
  by_cases h14 : y < 240
  · exact pg_okc_14 y (by omega) h14
  by_cases h15 : y < 256
  · exact pg_okc_15 y (by omega) h15
  by_cases h16 : y < 272
  · exact pg_okc_16 y (by omega) h16
  exact pg_okc_17 y (by omega) h
set_option maxRecDepth 100000 in
theorem pg_y_in : ∀ y, y < 272 → y ∈ pg_ys.flatten := by decide +kernel
set_option maxRecDepth 100000 in
theorem pg_plain : ∀ y, y < 272 → plainName (pg_nm y).cls = true := by decide +kernel
set_option maxRecDepth 100000 in
theorem pg_P0 : ∀ y, y < 272 → am_P y 0 = 0 := by decide +kernel
set_option maxRecDepth 100000 in
theorem pg_sct : ∀ y, y < 272 → pg_is y = true → pg_ct0 y = false := by decide +kernel
theorem am_cal_mono : ∀ (d y : Nat) (as : List Value) (S : am_S) (v : Option Value) (S' : am_S), am_cal d y as S = some (v, S') → am_n S ≤ am_n S' ∧ am_w S ≤ am_w S'
  | 0, _, _, _, _, _, h => by cases h
  | d + 1, y, as, S, v, S', h => by
    obtain ⟨hg, n, hn⟩ := am_cal_spec h
    exact am_mono (am_cal_mono d) y n _ _ _ _ _ hn
theorem am_cal_nc (d z : Nat) (as : List Value) (S : am_S) (v : Option Value) (S' : am_S) (h : am_cok z true = true ∨ (am_cok z false = true ∧ ((pg_nm z).name != "<init>") = true)) (hc : am_cal d z as S = some (v, S')) : am_n S' = am_n S := by
  have hz : pg_ct0 z = false := by
    rcases h with h | ⟨h, h2⟩
    · cases d with
      | zero => cases hc
      | succ d =>
        obtain ⟨hg, -⟩ := am_cal_spec hc
        exact pg_sct z (am_gr_spec hg).1 (am_cok_spec h).2.1
    · unfold pg_ct0
      simpa using h2
  have h := am_cal_ly d z as S v S' hz hc
  unfold am_ly at h
  simp only [Prod.mk.injEq] at h
  exact h.1
theorem am_cal_rc (d z : Nat) (as : List Value) (S : am_S) (v : Option Value) (S' : am_S) (hc : am_cal d z as S = some (v, S')) (hs : pg_is z = false) : ∃ b As, as = .ref b :: As ∧ am_c S b = pg_ow z := by
  cases d with
  | zero => cases hc
  | succ d =>
    obtain ⟨hg, -⟩ := am_cal_spec hc
    exact (am_gr_spec hg).2.2.2 hs
set_option maxHeartbeats 4000000 in
theorem am_Mall (l : Launch) : ∀ (d y : Nat) (as : List Value) (S : am_S) (v : Option Value) (S' : am_S), am_cal d y as S = some (v, S') → am_M l d y as S v S'
  | 0, _, _, _, _, _, h => by cases h
  | d + 1, y, as, S, v, S', h => by
    intro A D dA ad adV L xs hL31
    obtain ⟨hg, n, hn⟩ := am_cal_spec h
    obtain ⟨hy, hnod, hlen, -⟩ := am_gr_spec hg
    have hyin := pg_y_in y hy
    refine Met.ofW (cc := pg_by y) (maxL := pg_mx y) (ret := pg_rt y) (pg_plain y hy) rfl ?_
    intro p e s m args below meth c s₁ B hml hv
    obtain ⟨rfl, hK, hNW, hE, hP, hD, hIv, hA⟩ := hv
    have hx := B.exec
    have hb := B.bytes
    have hr := B.returns
    have hts := am_rpre B
    have hown : s.vm.findClass (am_on (pg_ow y)) = some m.cls := by
      have := findClass_of_methodNamed B.named
      rw [(pg_cls y hyin).1] at this
      exact this
    have hlocks := B.notSynchronized
    have hnm : (pg_nm y).name = "<init>" → meth.name = "<init>" := fun h => (name_of_methodNamed B.named B.method).1.trans h
    have hl := lv_entry (as.map (am_tr ad)) (n := pg_mx y) (by rw [am_spr_sl ad as hnod]; exact hlen)
    rw [lg_entry_eq]
    generalize (lg_sl (as.map (am_tr ad)) ++ List.replicate (pg_mx y - (lg_sl (as.map (am_tr ad))).length) Slot.unset).toArray = ls at hl ⊢
    have hh := am_has_ent rfl hnod hlen hl
    have hC : am_Cx p s m (as.map (am_tr ad)).toArray meth c A D dA y := ⟨hx, hb, hml, hown, hts, hK, hNW, hA, hnm⟩
    have key := am_go (p := p) (l := l) (e := e) (R := { frames := d + 1 + 8, cells := am_n S' - am_n S, slots := am_w S' - am_w S, locals := 64 * (d + 1 + 8) }) (s := s) (m := m) (args := (as.map (am_tr ad)).toArray) (below := below) (meth := meth) (c := c)
      (Q := MQ below (am_Q A D dA ad L xs (am_n S) v S') (as.map (am_tr ad)).toArray s (am_n S' - am_n S) (am_w S' - am_w S) A) (A := A) (D := D) (dA := dA) (adV := adV) (L := L) (xs := xs) hC (pg_ok_all y (by omega)) (f := am_cal d) (d := d) (am_Mall l d) (am_cal_mono d) (am_cal_nc d) (am_cal_rc d) hL31 (am_str l) (Nat.le_refl _) (Nat.le_refl _) (r := (v, S')) (n0 := am_n S) (w0 := am_w S) (Nat.le_refl _) (Nat.le_refl _) (ad0 := ad)
      (fun pc ad' H locs ls lo x hd hrt hrx hag hPt => by
        obtain ⟨hP, hD, hS, hIv, hE, hl⟩ := hPt
        have hrx : v = some (.int x) := hrx
        subst hrx
        exact W.iret hx hb (hr.trans hrt) (fun t ht hW => ⟨⟨ad', rfl, hag, ⟨by rw [ht]; exact hP, hD, hIv⟩, fun x h => by cases h⟩, hS.F ht⟩) hS.2.2 hd)
      (fun pc ad' H locs ls lo x hd hrt hx01 hrx hag hPt => by
        obtain ⟨hP, hD, hS, hIv, hE, hl⟩ := hPt
        have hrx : v = some (.int x) := hrx
        subst hrx
        exact W.zret hx hb (hr.trans hrt) (by rcases hx01 with rfl | rfl <;> decide) (fun t ht hW => ⟨⟨ad', rfl, hag, ⟨by rw [ht]; exact hP, hD, hIv⟩, fun x h => by cases h⟩, hS.F ht⟩) hS.2.2 hd)
      (fun pc ad' H locs ls lo x hd hrt hrx hag hPt => by
        obtain ⟨hP, hD, hS, hIv, hE, hl⟩ := hPt
        have hrx : v = some (.long x) := hrx
        subst hrx
        exact W.lret hx hb (hr.trans hrt) (fun t ht hW => ⟨⟨ad', rfl, hag, ⟨by rw [ht]; exact hP, hD, hIv⟩, fun x h => by cases h⟩, hS.F ht⟩) hS.2.2 hd)
      (fun pc ad' H locs ls lo x hd hrt hx2 hrx hag hPt => by
        obtain ⟨hP, hD, hS, hIv, hE, hl⟩ := hPt
        have hrx : v = some (.ref x) := hrx
        subst hrx
        obtain ⟨t0, ht0⟩ := hrt
        exact W.aret hx hb (hr.trans ht0) (Or.inl ⟨t0, rfl⟩) (Or.inr ⟨_, rfl⟩) (fun t ht hW => ⟨⟨ad', rfl, hag, ⟨by rw [ht]; exact hP, hD, hIv⟩, fun x h => by cases h; exact hx2⟩, hS.F ht⟩) hS.2.2 hd)
      (fun pc ad' H locs ls lo hd hrt hrx hag hPt => by
        obtain ⟨hP, hD, hS, hIv, hE, hl⟩ := hPt
        have hrx : v = none := hrx
        subst hrx
        exact W.vret hx hb (hr.trans hrt) (fun t ht hW => ⟨⟨ad', rfl, hag, ⟨by rw [ht]; exact hP, hD, hIv⟩, fun x h => by cases h⟩, hS.F ht⟩) hS.2.2 hd)
      n 0 (am_ent y as) [] S hn 0 ad s.heap [] ls (pg_P0 y hy).symm (Nat.le_refl _) (Nat.le_refl _) am_ag.rf ⟨hP, hD, va_S.rf, hIv, hE, hh⟩
    rw [Nat.sub_self, Nat.sub_self] at key
    exact key
end
section
/-! ===== what the claim's premises give at the start ===== -/
def am_tmL : List (String × Nat) := [("OneIsTwo$Law", 24), ("OneIsTwo$Law", 26), ("OneIsTwo$Law", 28), ("OneIsTwo$Law", 30), ("OneIsTwo$Law", 32), ("OneIsTwo$Law", 34), ("OneIsTwo$LawReader", 36), ("OneIsTwo$LawReader", 49), ("OneIsTwo$LawReader", 66), ("OneIsTwo$LawReader", 75), ("OneIsTwo$LawReader", 77), ("OneIsTwo$LawReader", 90)]
def am_tm (i : Nat) : Term := .string (am_tmL.getD i ("", 0)).1 (am_tmL.getD i ("", 0)).2
theorem am_lks : ∀ q ∈ lk_s, q.2.2 < 12 ∧ am_tm q.2.2 = .string (am_on q.1) q.2.1 := by
  intro q hq
  have h : ∀ q ∈ lk_s, q.2.2 < 12 ∧ (am_tmL.getD q.2.2 ("", 0)).1 = am_on q.1 ∧ (am_tmL.getD q.2.2 ("", 0)).2 = q.2.1 := by decide +kernel
  obtain ⟨h1, h2, h3⟩ := h q hq
  exact ⟨h1, by unfold am_tm; rw [h2, h3]⟩
section BG
variable {s : State} {b L : Nat} {xs : Nat → Int32} {args : Array Value}
theorem am_RA_prim {t : FieldType} (h : (Cond.arrayClass t).before args s = true) : ∃ c, s.vm.findClass ("[" ++ t.toString) = some c ∧ ArrOfT s c t := by
  obtain ⟨c, k, comp, h1, h2, h3⟩ := Cond.arrayClass_spec (h : (Cond.arrayClass t).holds args s none s [] = true)
  exact ⟨c, h1, fun n z => ⟨(fun q hq => by cases hq), k, h2, comp, h3⟩⟩
theorem am_RA_obj {C : String} (h : (Cond.arrayOver (.object C)).before args s = true) : ∃ c, va_RA s c (.object C) ∧ ArrOfT s c (.object C) := by
  obtain ⟨comp, c, k, h1, h2, h3, h4, h5⟩ := Cond.arrayOver_spec (h : (Cond.arrayOver (.object C)).holds args s none s [] = true)
  exact ⟨c, ⟨k, comp, h3, h4, h1, h5⟩, fun n z => ⟨(fun q hq => by cases hq), k, h3, comp, h4⟩⟩
theorem am_RA_arr {t : FieldType} (h : (Cond.arrayOver (.array t)).before args s = true) : ∃ c, s.vm.findClass ("[" ++ (FieldType.array t).toString) = some c ∧ ArrOfT s c (.array t) := by
  obtain ⟨comp, c, k, h1, h2, h3, h4, h5⟩ := am_overA h
  exact ⟨c, h5, fun n z => ⟨(fun q hq => by cases hq), k, h3, comp, h4⟩⟩
set_option maxRecDepth 100000 in
theorem am_bgw : ∀ w ∈ [Cond.laysStatic "OneIsTwo$Actor" "BEARS" "[I", Cond.laysStatic "OneIsTwo$Actor" "KNOWS" "[I", Cond.laysStatic "OneIsTwo$Actor" "SHARES" "[I", Cond.laysStatic "OneIsTwo$Actor" "TELLS" "[I", Cond.initialized "OneIsTwo$Actor", Cond.laysStatic "java/lang/String" "COMPACT_STRINGS" "Z", Cond.initialized "java/lang/String", Cond.laysStatic "jdk/internal/util/Preconditions" "SIOOBE_FORMATTER" "Ljava/util/function/BiFunction;", Cond.initialized "jdk/internal/util/Preconditions",
    Cond.arrayClass .int, Cond.arrayClass .byte, Cond.arrayClass .long, Cond.arrayOver (.object "OneIsTwo$Claim"), Cond.arrayOver (.object "OneIsTwo$Event"), Cond.arrayOver (.object "OneIsTwo$Person"), Cond.arrayOver (.object "OneIsTwo$Wedding"), Cond.arrayOver (.array .int), Cond.arrayOver (.array .long)], w ∈ lw_tbl :=
  lk_sub [1184, 1186, 1188, 1190, 111, 749, 113, 765, 115, 166, 474, 414, 139, 137, 135, 141, 505, 503] rfl
theorem am_bgi (k : Nat) {w : Cond} (h : [Cond.laysStatic "OneIsTwo$Actor" "BEARS" "[I", Cond.laysStatic "OneIsTwo$Actor" "KNOWS" "[I", Cond.laysStatic "OneIsTwo$Actor" "SHARES" "[I", Cond.laysStatic "OneIsTwo$Actor" "TELLS" "[I", Cond.initialized "OneIsTwo$Actor", Cond.laysStatic "java/lang/String" "COMPACT_STRINGS" "Z", Cond.initialized "java/lang/String", Cond.laysStatic "jdk/internal/util/Preconditions" "SIOOBE_FORMATTER" "Ljava/util/function/BiFunction;", Cond.initialized "jdk/internal/util/Preconditions",
    Cond.arrayClass .int, Cond.arrayClass .byte, Cond.arrayClass .long, Cond.arrayOver (.object "OneIsTwo$Claim"), Cond.arrayOver (.object "OneIsTwo$Event"), Cond.arrayOver (.object "OneIsTwo$Person"), Cond.arrayOver (.object "OneIsTwo$Wedding"), Cond.arrayOver (.array .int), Cond.arrayOver (.array .long)][k]? = some w) : w ∈ lw_tbl := am_bgw _ (List.mem_of_getElem? h)
set_option maxRecDepth 100000 in
theorem am_nr_s : ∀ i, i < 12 → Cond.exactly (am_tm i) "java/lang/String" ∈ flatC narrow_1 ∧ Cond.eq (.field (am_tm i) "java/lang/String" "coder" "B") (.int 0) ∈ flatC narrow_1 ∧ Cond.arrayOf (.field (am_tm i) "java/lang/String" "value" "[B") .byte ∈ flatC narrow_1 ∧ Cond.eq (.length (.field (am_tm i) "java/lang/String" "value" "[B")) (.int (Int32.ofNat (am_sl.getD i 0))) ∈ flatC narrow_1 := by decide +kernel
set_option maxRecDepth 100000 in
theorem am_nr_e : ∀ i, i < 12 → ∀ j, j < am_sl.getD i 0 → Cond.eq (.elem (.field (am_tm i) "java/lang/String" "value" "[B") (.int (Int32.ofNat j))) (.int ((am_bt.getD i []).getD j 0)) ∈ flatC narrow_1 := by decide +kernel
set_option maxRecDepth 100000 in
theorem am_nr_n : ∀ i, i < 12 → ∀ j, j < 12 → i ≠ j → Cond.not (Cond.eq (am_tm i) (am_tm j)) ∈ flatC narrow_1 ∨ Cond.not (Cond.eq (am_tm j) (am_tm i)) ∈ flatC narrow_1 := by decide +kernel
set_option maxRecDepth 100000 in
theorem am_nr_a : ∀ j, j < 4 → Cond.arrayOf (.static "OneIsTwo$Actor" (am_gx j) "[I") .int ∈ flatC narrow_1 ∧ Cond.eq (.length (.static "OneIsTwo$Actor" (am_gx j) "[I")) (.int (Int32.ofNat 8)) ∈ flatC narrow_1 ∧ ∀ k, k < 8 → Cond.eq (.elem (.static "OneIsTwo$Actor" (am_gx j) "[I") (.int (Int32.ofNat k))) (.int ((am_st j).getD k 0)) ∈ flatC narrow_1 := by decide +kernel
set_option maxRecDepth 100000 in
theorem am_nr_z : Cond.eq (.static "java/lang/String" "COMPACT_STRINGS" "Z") (.int 1) ∈ flatC narrow_1 ∧ Cond.isRef (.static "jdk/internal/util/Preconditions" "SIOOBE_FORMATTER" "Ljava/util/function/BiFunction;") ∈ flatC narrow_1 := by decide +kernel
theorem am_and_r {p q : Cond} {args : Array Value} {s : State} (h : (Cond.and p q).before args s = true) : q.before args s = true := by
  rw [Cond.before_and] at h
  exact (Bool.and_eq_true _ _ ▸ h).2
set_option maxHeartbeats 4000000 in
theorem am_begin {b L : Nat} (hL : L ≤ 3072) (hts : ∀ w ∈ lw_tbl, w.before #[.ref b] s = true) (hg : (Cond.and given_1 narrow_1).before #[.ref b] s = true) (hX : va_X b L xs s s.heap) (hb : b < s.heap.size) :
    ∃ (D : va_G) (dA : Nat → ClassId) (ad adV : Nat → Nat), va_K D vwCl (am_tys dA) s ∧ am_NW s ∧ am_E (fun q => s.heap.size ≤ q) ad adV L xs s s.heap ∧ ad 2000004 = b := by
  have hs := flat_of_before _ (am_and_r hg)
  have hA : ∀ a : Nat, a < s.heap.size → ¬ (fun q => s.heap.size ≤ q) a := fun a h => Nat.not_le.mpr h
  have hK : ∀ c, ∃ q : ClassId × (Nat → Nat), c < 13 → u_Kn s (am_on c) (am_T c) (am_N c) q.1 q.2 := by
    intro c
    by_cases hc : c < 13
    · obtain ⟨cC, iS, h⟩ := u_known hts (am_uw c hc) (hts _ (am_instn c hc).1)
      exact ⟨(cC, iS), fun _ => h⟩
    · exact ⟨(0, fun _ => 0), fun h => absurd h hc⟩
  obtain ⟨dd, hdd⟩ := Classical.axiomOfChoice hK
  obtain ⟨c100, r100, o100⟩ := am_RA_prim (hts _ (am_bgi 9 rfl))
  obtain ⟨c101, r101, o101⟩ := am_RA_prim (hts _ (am_bgi 10 rfl))
  obtain ⟨c102, r102, o102⟩ := am_RA_prim (hts _ (am_bgi 11 rfl))
  obtain ⟨c104, r104, o104⟩ := am_RA_obj (hts _ (am_bgi 12 rfl))
  obtain ⟨c105, r105, o105⟩ := am_RA_obj (hts _ (am_bgi 13 rfl))
  obtain ⟨c110, r110, o110⟩ := am_RA_obj (hts _ (am_bgi 14 rfl))
  obtain ⟨c112, r112, o112⟩ := am_RA_obj (hts _ (am_bgi 15 rfl))
  obtain ⟨c180, r180, o180⟩ := am_RA_arr (hts _ (am_bgi 16 rfl))
  obtain ⟨c182, r182, o182⟩ := am_RA_arr (hts _ (am_bgi 17 rfl))
  obtain ⟨adK, adV, hS, hSt⟩ := vk_Sof (args := #[Value.ref b]) (s := s) (N := 12) (tm := am_tm) (len := am_sl) (byt := am_bt) (fun i _ => am_sl_lt i) (fun i hi => hs _ (am_nr_s i hi).1) (fun i hi => hs _ (am_nr_s i hi).2.1) (fun i hi => hs _ (am_nr_s i hi).2.2.1) (fun i hi => hs _ (am_nr_s i hi).2.2.2) (fun i hi j hj => hs _ (am_nr_e i hi j hj)) (fun i j hi hj hij => (am_nr_n i hi j hj hij).imp (hs _) (hs _)) hA
  have hT : ∀ j, ∃ t : Nat, j < 4 → (Term.static "OneIsTwo$Actor" (am_gx j) "[I").eval #[Value.ref b] s none [] s = some (.ref t) ∧ va_T .int t 8 (fun k => .int ((am_st j).getD k 0)) (fun q => s.heap.size ≤ q) s s.heap := by
    intro j
    by_cases hj : j < 4
    · obtain ⟨h1, h2, h3⟩ := am_nr_a j hj
      obtain ⟨t, ht, hT⟩ := va_Tof (f := fun k => .int ((am_st j).getD k 0)) (by decide) (hs _ h1) (va_eqt (hs _ h2)) (fun k hk => va_eqt (hs _ (h3 k hk))) hA
      exact ⟨t, fun _ => ⟨ht, hT⟩⟩
    · exact ⟨0, fun h => absurd h hj⟩
  obtain ⟨tt, htt⟩ := Classical.axiomOfChoice hT
  have hls : ∀ j, j < 4 → Cond.laysStatic "OneIsTwo$Actor" (am_gx j) "[I" ∈ lw_tbl := by
    intro j hj
    match j, hj with
    | 0, _ => exact am_bgi 0 rfl
    | 1, _ => exact am_bgi 1 rfl
    | 2, _ => exact am_bgi 2 rfl
    | 3, _ => exact am_bgi 3 rfl
    | j + 4, h => exact absurd h (by omega)
  refine ⟨(fun c => (dd c).1, fun c => (dd c).2), fun k => match k with
    | 100 => c100 | 101 => c101 | 102 => c102 | 104 => c104 | 105 => c105 | 110 => c110 | 112 => c112 | 180 => c180 | _ => c182,
    fun q => if q < 2000004 then tt (q - 2000000) else if q = 2000004 then b else adK (q - 4000000), adV, ⟨fun c q hq => ?_, fun k q hk => ?_⟩, ⟨fun q hq => va_Nw.of rfl (hts _ (lk_nm_ok _ (List.mem_map_of_mem hq))), va_Nw.of rfl (hts _ lk_fn_ok), fun k hk => ?_, hts _ (am_bgi 16 rfl), hts _ (am_bgi 17 rfl)⟩, ⟨fun j hj => ?_, fun j hj => ?_, ?_, fun q hq => ?_, ?_, ?_⟩, ?_⟩
  · have hc : c < 13 := (List.getElem?_eq_some_iff.mp hq).1
    rw [am_cl c hc] at hq
    cases hq
    exact hdd c hc
  · unfold am_tys at hk
    rcases k with _ | _ | _ | _ | _ | _ | _ | _ | _ | k
    · cases hk; exact ⟨o100, r100⟩
    · cases hk; exact ⟨o101, r101⟩
    · cases hk; exact ⟨o102, r102⟩
    · cases hk; exact ⟨o104, r104⟩
    · cases hk; exact ⟨o105, r105⟩
    · cases hk; exact ⟨o110, r110⟩
    · cases hk; exact ⟨o112, r112⟩
    · cases hk; exact ⟨o180, r180⟩
    · cases hk; exact ⟨o182, r182⟩
    · simp at hk
  · rcases hk with rfl | rfl | rfl | rfl
    · exact va_AO.of (hts _ (am_bgi 12 rfl))
    · exact va_AO.of (hts _ (am_bgi 13 rfl))
    · exact va_AO.of (hts _ (am_bgi 14 rfl))
    · exact va_AO.of (hts _ (am_bgi 15 rfl))
  · dsimp only
    rw [if_pos (by omega), show 2000000 + j - 2000000 = j by omega]
    exact va_Zref (hts _ (hls j hj)) (hts _ (am_bgi 4 rfl)) (htt j hj).1 hA
  · by_cases h4 : j = 4
    · subst h4
      obtain ⟨scr, h1, h2, h3, h5, h6⟩ := hX
      exact ⟨scr, h1, h2, h3, by rw [h5]; exact Nat.le_refl _, by rw [h5]; rfl, h6, hA b hb⟩
    · dsimp only
      rw [if_pos (by omega), show 2000000 + j - 2000000 = j by omega]
      have h := (htt j (by omega)).2
      have e1 : am_xl L j = 8 := by
        unfold am_xl
        split
        · omega
        · rfl
      have e2 : (fun k => Value.int (am_xf xs j k)) = fun k => Value.int ((am_st j).getD k 0) := by
        funext k
        unfold am_xf
        split
        · omega
        · rfl
      rw [e1, e2]
      exact h
  · have e : (fun i => (fun q => if q < 2000004 then tt (q - 2000000) else if q = 2000004 then b else adK (q - 4000000)) (4000000 + i)) = adK := by
      funext i
      show (if 4000000 + i < 2000004 then _ else _) = _
      rw [if_neg (by omega), if_neg (by omega), Nat.add_sub_cancel_left]
    rw [e]
    exact hS
  · obtain ⟨h1, h2⟩ := am_lks q hq
    dsimp only
    rw [if_neg (by omega), if_neg (by omega), Nat.add_sub_cancel_left]
    exact vk_R.of (hts _ (lk_s_ok q hq)) (by rw [← h2]; exact hSt _ h1)
  · exact va_Zof (hts _ (am_bgi 5 rfl)) (hts _ (am_bgi 6 rfl)) (va_eqi (hs _ am_nr_z.1)) hA
  · exact va_Zqof (hts _ (am_bgi 7 rfl)) (hts _ (am_bgi 8 rfl)) (hs _ am_nr_z.2) hA
  · rfl
end BG
end
section
/-! ===== the law's own method, as the small machine runs it ===== -/
/-- before anything is made: the rows of numbers, the script, the texts -/
def am_S00 (L : Nat) (xs : Nat → Int32) : am_S := (0, 0, (fun a => cond (Nat.blt a 2000000) 999 (cond (Nat.blt a 2000005) 998 (cond (Nat.blt a 4000000) 999 (cond (Nat.blt a 4000012) 997 999)))), (fun _ => 0), (fun _ _ => none),
  (fun a k => cond (Nat.blt a 3000000) (am_xf xs (a - 2000000) k) (cond (Nat.blt a 4000000) (nI (am_xl L (a - 3000000))) (cond (Nat.blt a 5000000) ((am_bt.getD (a - 4000000) []).getD k 0) (nI (am_sl.getD (a - 5000000) 0))))), (fun _ _ => 0))
theorem am_blt_t {a b : Nat} (h : a < b) : Nat.blt a b = true := by simpa [Nat.blt_eq] using h
theorem am_blt_f {a b : Nat} (h : b ≤ a) : Nat.blt a b = false := by
  cases hh : Nat.blt a b with
  | false => rfl
  | true => exact absurd (by simpa [Nat.blt_eq] using hh) (Nat.not_lt.mpr h)
theorem am_Iv00 {L : Nat} {xs : Nat → Int32} : am_Iv L xs (am_S00 L xs) := by
  have kc : ∀ a, am_c (am_S00 L xs) a = cond (Nat.blt a 2000000) 999 (cond (Nat.blt a 2000005) 998 (cond (Nat.blt a 4000000) 999 (cond (Nat.blt a 4000012) 997 999))) := fun _ => rfl
  have ki : ∀ a k, am_i (am_S00 L xs) a k = cond (Nat.blt a 3000000) (am_xf xs (a - 2000000) k) (cond (Nat.blt a 4000000) (nI (am_xl L (a - 3000000))) (cond (Nat.blt a 5000000) ((am_bt.getD (a - 4000000) []).getD k 0) (nI (am_sl.getD (a - 5000000) 0)))) := fun _ _ => rfl
  refine ⟨fun a ha => ?_, fun a ha => ?_, fun a ha => ?_, fun j hj k hk => ?_, fun j hj => ?_, fun i hi k hk => ?_, fun i hi => ?_, fun a j r hr => ?_, by show 0 < 1200; omega⟩
  · exfalso
    rw [kc] at ha
    cases h1 : Nat.blt a 2000000 <;> cases h2 : Nat.blt a 2000005 <;> cases h3 : Nat.blt a 4000000 <;> cases h4 : Nat.blt a 4000012 <;> rw [h1, h2, h3, h4] at ha <;> simp only [cond_true, cond_false] at ha <;> omega
  · rw [kc] at ha
    have h4 : Nat.blt a 4000012 = true := by
      cases h1 : Nat.blt a 2000000 <;> cases h2 : Nat.blt a 2000005 <;> cases h3 : Nat.blt a 4000000 <;> cases h4 : Nat.blt a 4000012 <;> rw [h1, h2, h3, h4] at ha <;> simp only [cond_true, cond_false] at ha <;> first | rfl | omega
    have h3 : ¬ Nat.blt a 4000000 = true := fun h3 => by
      rw [h3] at ha
      cases h1 : Nat.blt a 2000000 <;> cases h2 : Nat.blt a 2000005 <;> rw [h1, h2] at ha <;> simp only [cond_true, cond_false] at ha <;> omega
    have h3 : ¬ a < 4000000 := fun q => h3 (am_blt_t q)
    have h4 : a < 4000012 := by simpa [Nat.blt_eq] using h4
    exact ⟨a - 4000000, by omega, by omega⟩
  · rw [kc] at ha
    have h4 : Nat.blt a 2000005 = true := by
      cases h1 : Nat.blt a 2000000 <;> cases h2 : Nat.blt a 2000005 <;> cases h3 : Nat.blt a 4000000 <;> cases h4 : Nat.blt a 4000012 <;> rw [h1, h2, h3, h4] at ha <;> simp only [cond_true, cond_false] at ha <;> first | rfl | omega
    have h3 : ¬ Nat.blt a 2000000 = true := fun h3 => by
      rw [h3] at ha
      simp only [cond_true] at ha
      omega
    have h3 : ¬ a < 2000000 := fun q => h3 (am_blt_t q)
    have h4 : a < 2000005 := by simpa [Nat.blt_eq] using h4
    exact ⟨a - 2000000, by omega, by omega⟩
  · rw [ki, am_blt_t (by omega), cond_true, show 2000000 + j - 2000000 = j by omega]
  · rw [ki, am_blt_f (by omega), cond_false, am_blt_t (by omega), cond_true, show 3000000 + j - 3000000 = j by omega]
  · rw [ki, am_blt_f (by omega), cond_false, am_blt_f (by omega), cond_false, am_blt_t (by omega), cond_true, show 4000000 + i - 4000000 = i by omega]
  · rw [ki, am_blt_f (by omega), cond_false, am_blt_f (by omega), cond_false, am_blt_f (by omega), cond_false, show 5000000 + i - 5000000 = i by omega]
  · cases hr
section LW
variable {p : Program} {l : Launch} {e : Env} {R : Room} {s : State} {m : MethodId} {args : Array Value} {below : List Frame} {meth : Method} {c : Code} {H : Heap} {locs : List Loc} {cells slots : Nat} {Q : State → Prop}
theorem am_drop {g : JFrame} (hl : ∀ q ∈ locs, s.heap.size ≤ q.base) (k : W p l e R s m args below meth c H [] cells slots Q g) : W p l e R s m args below meth c H locs cells slots Q g := fun T hT X => k T hT (Stand.dropFresh (locs := []) (J := locs) X hl)
set_option maxHeartbeats 4000000 in
/-- the law's walk, out of a run of the small machine that ends with 1 -/
theorem am_law {b L : Nat} {xs : Nat → Int32} (hx : p.tables.exec = Jvm.exec) (hb : c.code = code) (hml : c.maxLocals = 4) (hown : s.vm.findClass "OneIsTwoLaw" = some m.cls) (hts : ∀ w ∈ lw_tbl, w.before #[.ref b] s = true) (hg : (Cond.and given_1 narrow_1).before #[.ref b] s = true) (hX : va_X b L xs s s.heap) (hbs : b < s.heap.size) (hL : L ≤ 3072) {n : Nat} {S' : am_S}
    (hrun : am_run (am_cal 1000) 274 n 0 (am_ent 274 [.ref 2000004]) [] (am_S00 L xs) = some (some (.int 1), S')) (hc : am_n S' ≤ 600000) (hw : am_w S' ≤ 7302250)
    (kk : ∀ (pc : Nat) (H : Heap) (ls : Array Slot), decode code pc = .ok (.ireturn, 1) → W p l e room_1 s m #[.ref b] below meth c H [] 600000 7302250 Q (F0 m pc ls [.int 1])) :
    W p l e room_1 s m #[.ref b] below meth c s.heap [] 0 0 Q (entryFrame m ([Value.ref b] : List Value).toArray 4) := by
  obtain ⟨D, dA, ad, adV, hK, hNW, hE, had⟩ := am_begin hL hts hg hX hbs
  have hl := lv_entry ([.ref b]) (n := 4) (Nat.le_of_ble_eq_true rfl)
  rw [lg_entry_eq]
  generalize (lg_sl ([.ref b]) ++ List.replicate (4 - (lg_sl ([.ref b])).length) Slot.unset).toArray = ls at hl ⊢
  have hh : am_has ad ls (pg_mx 274) (am_ent 274 [.ref 2000004]) := am_has_ent (n := 4) rfl rfl (Nat.le_of_ble_eq_true rfl) (by
    show lv_has ls 4 (lv_args 0 [.ref (ad 2000004)])
    rw [had]
    exact hl)
  have hC : am_Cx p s m #[.ref b] meth c (fun q => s.heap.size ≤ q) D dA 274 := ⟨hx, hb, hml, hown, fun w hw => hts w (List.mem_filter.mp hw).1, hK, hNW, fun q h => h, fun h => absurd h (by decide +kernel)⟩
  exact am_go (R := room_1) (args := #[.ref b]) (below := below) (Q := Q) (adV := adV) (L := L) (xs := xs) hC pg_ok_274 (f := am_cal 1000) (d := 1000) (am_Mall l 1000) (am_cal_mono 1000) (am_cal_nc 1000) (am_cal_rc 1000) (by omega) (am_str l) (by decide) (by decide) (r := (some (.int 1), S')) (n0 := 0) (w0 := 0) hc hw (ad0 := ad)
    (fun pc ad' H locs ls lo x hd hrt hrx hag hPt => by
      have hrt : some FieldType.boolean = some FieldType.int := hrt
      cases hrt)
    (fun pc ad' H locs ls lo x hd hrt hx01 hrx hag hPt => by
      obtain ⟨hP, hD, hS, hIv, hE, hl⟩ := hPt
      have hrx : some (Value.int 1) = some (Value.int x) := hrx
      cases hrx
      exact am_drop hS.2.2 (W.widen (k := 600000) (n := 7302250) hc hw (kk pc H ls hd)))
    (fun pc ad' H locs ls lo x hd hrt hrx hag hPt => by
      have hrt : some FieldType.boolean = some FieldType.long := hrt
      cases hrt)
    (fun pc ad' H locs ls lo x hd hrt hx2 hrx hag hPt => by
      obtain ⟨t, hrt⟩ := hrt
      have hrt : some FieldType.boolean = some (FieldType.object t) := hrt
      cases hrt)
    (fun pc ad' H locs ls lo hd hrt hrx hag hPt => by
      have hrt : some FieldType.boolean = none := hrt
      cases hrt)
    n 0 (am_ent 274 [.ref 2000004]) [] (am_S00 L xs) hrun 0 ad s.heap [] ls rfl (Nat.le_refl _) (Nat.le_refl _) am_ag.rf ⟨(fun k q h => by cases h), ⟨(fun i j p q h => by cases h), (fun k q h => by cases h)⟩, va_S.rf, am_Iv00, hE, hh⟩
end LW
end
section
/-! ===== the constructors' run: it asks nothing of the rows, the script and the texts ===== -/
def am_mix (ii : Nat → Nat → Int32) (S : am_S) : am_S := (am_n S, am_w S, am_c S, am_l S, am_r S, (fun a => cond (Nat.blt a 2000000) (am_i S a) (ii a)), am_j S)
def am_Pc (S : am_S) : Prop := ∀ a, 2000000 ≤ a → 900 ≤ am_c S a
def am_Mx (ii : Nat → Nat → Int32) (a b : am_R) : Prop := ∀ v S', a = some (v, S') → b = some (v, am_mix ii S') ∧ am_Pc S'
theorem am_mx_no {ii : Nat → Nat → Int32} {b : am_R} : am_Mx ii none b := fun v S' h => by cases h
theorem am_mx_ite {ii : Nat → Nat → Int32} {c : Prop} [Decidable c] {a b a2 b2 : am_R} (ha : c → am_Mx ii a a2) (hb : ¬ c → am_Mx ii b b2) : am_Mx ii (if c then a else b) (if c then a2 else b2) := by
  by_cases hc : c
  · rw [if_pos hc, if_pos hc]; exact ha hc
  · rw [if_neg hc, if_neg hc]; exact hb hc
theorem am_mx_bq {ii : Nat → Nat → Int32} {o : Option Nat} {k k2 : Nat → am_R} (h : ∀ x, am_Mx ii (k x) (k2 x)) : am_Mx ii (am_bq o k) (am_bq o k2) := by
  rcases o with _ | v
  · exact am_mx_no
  · exact h v
theorem am_mx_bV {ii : Nat → Nat → Int32} {o o2 : am_R} {k k2 : am_S → am_R} (ho : am_Mx ii o o2) (h : ∀ S, am_Pc S → am_Mx ii (k S) (k2 (am_mix ii S))) : am_Mx ii (am_bV o k) (am_bV o2 k2) := by
  rcases o with _ | ⟨_ | v, S⟩
  · exact am_mx_no
  · obtain ⟨h1, h2⟩ := ho _ _ rfl
    rw [h1]
    exact h S h2
  · exact am_mx_no
theorem am_mx_br {ii : Nat → Nat → Int32} {c : Jvm.ClassFile.Cond} {x y : Int32} {a b a2 b2 : am_R} (ha : am_Mx ii a a2) (hb : am_Mx ii b b2) : am_Mx ii (am_br c x y a b) (am_br c x y a2 b2) := by
  cases c
  · exact am_mx_ite (fun _ => ha) (fun _ => hb)
  · exact am_mx_ite (fun _ => hb) (fun _ => ha)
  · exact am_mx_ite (fun _ => ha) (fun _ => hb)
  · exact am_mx_ite (fun _ => hb) (fun _ => ha)
  · exact am_mx_ite (fun _ => ha) (fun _ => hb)
  · exact am_mx_ite (fun _ => hb) (fun _ => ha)
theorem am_mix_pi {ii : Nat → Nat → Int32} {S : am_S} {a k : Nat} {v : Int32} (ha : a < 2000000) : am_pi (am_mix ii S) a k v = am_mix ii (am_pi S a k v) := by
  have e : am_up (fun b => cond (Nat.blt b 2000000) (am_i S b) (ii b)) a (am_up (cond (Nat.blt a 2000000) (am_i S a) (ii a)) k v) = fun b => cond (Nat.blt b 2000000) (am_up (am_i S) a (am_up (am_i S a) k v) b) (ii b) := by
    funext b
    unfold am_up
    by_cases hb : b = a
    · subst hb
      rw [am_blt_t ha]
      simp only [cond_true, if_true]
    · simp only [if_neg hb]
  show (am_n S, am_w S, am_c S, am_l S, am_r S, _, am_j S) = _
  rw [show am_up (am_i (am_mix ii S)) a (am_up (am_i (am_mix ii S) a) k v) = _ from e]
  rfl
theorem am_mix_mk {ii : Nat → Nat → Int32} {S : am_S} {c n : Nat} (ha : am_n S < 2000000) : am_mk (am_mix ii S) c n = am_mix ii (am_mk S c n) := by
  have e : am_up (fun b => cond (Nat.blt b 2000000) (am_i S b) (ii b)) (am_n S) (fun _ => (0 : Int32)) = fun b => cond (Nat.blt b 2000000) (am_up (am_i S) (am_n S) (fun _ => 0) b) (ii b) := by
    funext b
    unfold am_up
    by_cases hb : b = am_n S
    · subst hb
      rw [am_blt_t ha]
      simp only [cond_true, if_true]
    · simp only [if_neg hb]
  show (am_n S + 1, am_w S + n, _, _, _, am_up (fun b => cond (Nat.blt b 2000000) (am_i S b) (ii b)) (am_n S) (fun _ => (0 : Int32)), _) = _
  rw [e]
  rfl
theorem am_pc_mk {S : am_S} {c n : Nat} (ha : am_n S < 2000000) (h : am_Pc S) : am_Pc (am_mk S c n) := fun a hx => by
  show 900 ≤ am_up (am_c S) (am_n S) c a
  unfold am_up
  rw [if_neg (by omega)]
  exact h a hx
theorem am_mix_rows {ii : Nat → Nat → Int32} {a c n : Nat} : ∀ (k p : Nat) (S : am_S), am_n S + k < 2000000 → am_Pc S → am_rows a c n k p (am_mix ii S) = am_mix ii (am_rows a c n k p S) ∧ am_Pc (am_rows a c n k p S)
  | 0, _, _, _, h => ⟨rfl, h⟩
  | k + 1, p, S, hn, h => by
    have e : am_pr (am_mk (am_mix ii S) c n) a p (am_n (am_mix ii S)) = am_mix ii (am_pr (am_mk S c n) a p (am_n S)) := by
      rw [am_mix_mk (by omega)]
      rfl
    show am_rows a c n k (p + 1) (am_pr (am_mk (am_mix ii S) c n) a p (am_n (am_mix ii S))) = _ ∧ _
    rw [e]
    have hp : am_Pc (am_mk S c n) := am_pc_mk (by omega) h
    exact am_mix_rows k (p + 1) (am_pr (am_mk S c n) a p (am_n S)) (by show am_n S + 1 + k < 2000000; omega) hp
def am_ci (ins : Instr) : Bool := match ins with
  | .iconst _ => true
  | .bipush _ => true
  | .iload _ => true
  | .aload _ => true
  | .istore _ => true
  | .iinc _ _ => true
  | .dup => true
  | .goto _ => true
  | .if_icmp _ _ => true
  | .getfield k => Nat.beq (k % 4) 2
  | .putfield k => Nat.blt (k / 256) 900
  | .iastore => true
  | .aastore => true
  | .arraylength => true
  | .new _ => true
  | .newarray _ => true
  | .anewarray _ => true
  | .multianewarray _ _ => true
  | .monitorenter => true
  | .invokespecial _ => true
  | .return_ => true
  | .nop => true
  | _ => false
theorem am_gd_n {S : am_S} {lo st : List Value} (h : am_gd S lo st = true) : am_n S < 1000 := by
  unfold am_gd at h
  simp only [Bool.and_eq_true] at h
  simpa [Nat.blt_eq] using h.1
theorem am_mxs {ii : Nat → Nat → Int32} {f f2 : Nat → List Value → am_S → am_R} {K K2 : Nat → List Value → List Value → am_S → am_R} (hf : ∀ y as S, am_Pc S → am_Mx ii (f y as S) (f2 y as (am_mix ii S))) (hK : ∀ i lo st S, am_Pc S → am_Mx ii (K i lo st S) (K2 i lo st (am_mix ii S))) (ins : Instr) (hci : am_ci ins = true) (i : Nat) (lo st : List Value) (S : am_S) (hS : am_Pc S) :
    am_Mx ii (am_stp f K ins i lo st S) (am_stp f2 K2 ins i lo st (am_mix ii S)) := by
  have sm : ∀ a, am_c S a < 900 → a < 2000000 := fun a ha => Nat.lt_of_not_le fun hh => absurd (hS a hh) (Nat.not_le.mpr ha)
  cases ins
  case nop => exact am_mx_no
  case iconst v => exact hK _ _ _ _ hS
  case bipush v => exact hK _ _ _ _ hS
  case goto t => exact hK _ _ _ _ hS
  case iload k =>
    have e : ∀ v, am_nth lo k = v → am_Mx ii (am_stp f K (.iload k) i lo st S) (am_stp f2 K2 (.iload k) i lo st (am_mix ii S)) := by
      intro v hv
      simp only [am_stp, hv]
      cases v <;> first | exact hK _ _ _ _ hS | exact am_mx_no
    exact e _ rfl
  case aload k =>
    have e : ∀ v, am_nth lo k = v → am_Mx ii (am_stp f K (.aload k) i lo st S) (am_stp f2 K2 (.aload k) i lo st (am_mix ii S)) := by
      intro v hv
      simp only [am_stp, hv]
      cases v <;> first | exact hK _ _ _ _ hS | exact am_mx_no
    exact e _ rfl
  case iinc k c =>
    have e : ∀ v, am_nth lo k = v → am_Mx ii (am_stp f K (.iinc k c) i lo st S) (am_stp f2 K2 (.iinc k c) i lo st (am_mix ii S)) := by
      intro v hv
      simp only [am_stp, hv]
      cases v <;> first | exact hK _ _ _ _ hS | exact am_mx_no
    exact e _ rfl
  case istore k =>
    rcases st with _ | ⟨v, st⟩
    · exact am_mx_no
    · cases v <;> first | exact hK _ _ _ _ hS | exact am_mx_no
  case dup =>
    rcases st with _ | ⟨v, st⟩
    · exact am_mx_no
    · exact am_mx_ite (fun _ => hK _ _ _ _ hS) (fun _ => am_mx_no)
  case if_icmp c t =>
    rcases st with _ | ⟨v, _ | ⟨w, st⟩⟩
    · exact am_mx_no
    · cases v <;> exact am_mx_no
    · cases v
      case int y =>
        cases w
        case int x => exact am_mx_br (hK _ _ _ _ hS) (hK _ _ _ _ hS)
        all_goals exact am_mx_no
      all_goals exact am_mx_no
  case getfield k =>
    have hk : k % 4 = 2 := Nat.eq_of_beq_eq_true hci
    rcases st with _ | ⟨v, st⟩
    · exact am_mx_no
    · cases v
      case ref a =>
        refine am_mx_ite (fun _ => ?_) (fun _ => am_mx_no)
        rw [hk]
        exact am_mx_bq fun _ => hK _ _ _ _ hS
      all_goals exact am_mx_no
  case putfield k =>
    rcases st with _ | ⟨v, _ | ⟨w, st⟩⟩
    · exact am_mx_no
    · cases v <;> exact am_mx_no
    · cases v
      case int x =>
        cases w
        case ref a =>
          refine am_mx_ite (fun hc => ?_) (fun _ => am_mx_no)
          have hk : k / 256 < 900 := by simpa [am_ci, Nat.blt_eq] using hci
          have ha := sm a (by rw [hc]; exact hk)
          generalize k % 4 = q
          rcases q with _ | _ | _ | _ | q
          · show am_Mx ii _ (K2 (i + 1) lo st (am_pi (am_mix ii S) a (k / 4 % 64) x))
            rw [am_mix_pi ha]
            exact hK _ _ _ _ hS
          · exact am_mx_no
          · exact am_mx_no
          · refine am_mx_ite (fun _ => ?_) (fun _ => am_mx_no)
            rw [am_mix_pi ha]
            exact hK _ _ _ _ hS
          · exact am_mx_no
        all_goals exact am_mx_no
      case long x =>
        cases w
        case ref a =>
          refine am_mx_ite (fun _ => ?_) (fun _ => am_mx_no)
          generalize k % 4 = q
          rcases q with _ | _ | q
          · exact am_mx_no
          · exact hK _ _ _ _ hS
          · exact am_mx_no
        all_goals exact am_mx_no
      case ref x =>
        cases w
        case ref a =>
          refine am_mx_ite (fun _ => ?_) (fun _ => am_mx_no)
          generalize k % 4 = q
          rcases q with _ | _ | _ | q
          · exact am_mx_no
          · exact am_mx_no
          · exact am_mx_ite (fun _ => hK _ _ _ _ hS) (fun _ => am_mx_no)
          · exact am_mx_no
        all_goals exact am_mx_no
      all_goals exact am_mx_no
  case iastore =>
    rcases st with _ | ⟨v, _ | ⟨w, _ | ⟨u, st⟩⟩⟩
    · exact am_mx_no
    · cases v <;> exact am_mx_no
    · cases v <;> first | exact am_mx_no | (cases w <;> exact am_mx_no)
    · cases v
      case int v =>
        cases w
        case int x =>
          cases u
          case ref a =>
            refine am_mx_ite (fun hc => am_mx_ite (fun _ => am_mx_no) (fun _ => ?_)) (fun _ => am_mx_no)
            rw [am_mix_pi (sm a (by omega))]
            exact hK _ _ _ _ hS
          all_goals exact am_mx_no
        all_goals exact am_mx_no
      all_goals exact am_mx_no
  case aastore =>
    rcases st with _ | ⟨v, _ | ⟨w, _ | ⟨u, st⟩⟩⟩
    · exact am_mx_no
    · cases v <;> exact am_mx_no
    · cases v <;> first | exact am_mx_no | (cases w <;> exact am_mx_no)
    · cases v
      case ref v =>
        cases w
        case int x =>
          cases u
          case ref a => exact am_mx_ite (fun hc => am_mx_ite (fun _ => am_mx_no) (fun _ => hK _ _ _ _ hS)) (fun _ => am_mx_no)
          all_goals exact am_mx_no
        all_goals exact am_mx_no
      all_goals exact am_mx_no
  case arraylength =>
    rcases st with _ | ⟨v, st⟩
    · exact am_mx_no
    · cases v <;> first | exact am_mx_no | exact am_mx_ite (fun _ => hK _ _ _ _ hS) (fun _ => am_mx_no)
  case new k =>
    refine am_mx_ite (fun hg => ?_) (fun _ => am_mx_no)
    have hn := am_gd_n hg
    rw [am_mix_mk (by omega)]
    exact hK _ _ _ _ (am_pc_mk (by omega) hS)
  case newarray t =>
    rcases st with _ | ⟨v, st⟩
    · exact am_mx_no
    · cases v
      case int x =>
        refine am_mx_ite (fun _ => am_mx_no) (fun hg => ?_)
        have hn : am_n S < 1000 := by
          cases hh : am_gd S lo st with
          | true => exact am_gd_n hh
          | false => exact absurd (Or.inr (Or.inr hh)) hg
        cases t <;> dsimp only <;> first | exact am_mx_no | (rw [am_mix_mk (by omega)]; exact hK _ _ _ _ (am_pc_mk (by omega) hS))
      all_goals exact am_mx_no
  case anewarray k =>
    rcases st with _ | ⟨v, st⟩
    · exact am_mx_no
    · cases v
      case int x =>
        refine am_mx_ite (fun _ => am_mx_no) (fun hg => ?_)
        have hn : am_n S < 1000 := by
          cases hh : am_gd S lo st with
          | true => exact am_gd_n hh
          | false => exact absurd (Or.inr (Or.inr hh)) hg
        rw [am_mix_mk (by omega)]
        exact hK _ _ _ _ (am_pc_mk (by omega) hS)
      all_goals exact am_mx_no
  case multianewarray k e =>
    rcases st with _ | ⟨v, _ | ⟨w, st⟩⟩
    · exact am_mx_no
    · cases v <;> exact am_mx_no
    · cases v
      case int y =>
        cases w
        case int x =>
          refine am_mx_ite (fun _ => am_mx_no) (fun hg => ?_)
          have hn : am_n S < 1000 := by
            cases hh : am_gd S lo st with
            | true => exact am_gd_n hh
            | false => exact absurd (Or.inr (Or.inr (Or.inr (Or.inr hh)))) hg
          have hx : x.toNatClampNeg ≤ 100 := Nat.le_of_not_lt fun h => hg (Or.inr (Or.inl h))
          rcases k with _ | _ | k
          · show am_Mx ii _ (K2 (i + 1) lo (.ref (am_n S) :: st) (am_rows (am_n S) 100 y.toNatClampNeg x.toNatClampNeg 0 (am_mk (am_mix ii S) 180 x.toNatClampNeg)))
            rw [am_mix_mk (by omega)]
            obtain ⟨h1, h2⟩ := am_mix_rows (ii := ii) (a := am_n S) (c := 100) (n := y.toNatClampNeg) x.toNatClampNeg 0 (am_mk S 180 x.toNatClampNeg) (by show am_n S + 1 + _ < _; omega) (am_pc_mk (by omega) hS)
            rw [h1]
            exact hK _ _ _ _ h2
          · show am_Mx ii _ (K2 (i + 1) lo (.ref (am_n S) :: st) (am_rows (am_n S) 102 y.toNatClampNeg x.toNatClampNeg 0 (am_mk (am_mix ii S) 182 x.toNatClampNeg)))
            rw [am_mix_mk (by omega)]
            obtain ⟨h1, h2⟩ := am_mix_rows (ii := ii) (a := am_n S) (c := 102) (n := y.toNatClampNeg) x.toNatClampNeg 0 (am_mk S 182 x.toNatClampNeg) (by show am_n S + 1 + _ < _; omega) (am_pc_mk (by omega) hS)
            rw [h1]
            exact hK _ _ _ _ h2
          · exact am_mx_no
        all_goals exact am_mx_no
      all_goals exact am_mx_no
  case monitorenter =>
    rcases st with _ | ⟨v, st⟩
    · exact am_mx_no
    · cases v <;> first | exact am_mx_no | exact am_mx_ite (fun _ => hK _ _ _ _ hS) (fun _ => am_mx_no)
  case invokespecial y => exact am_mx_ite (fun _ => am_mx_bV (hf _ _ _ hS) fun S2 h2 => hK _ _ _ _ h2) (fun _ => am_mx_no)
  case return_ =>
    rcases st with _ | ⟨v, st⟩
    · intro v S' h
      cases h
      exact ⟨rfl, hS⟩
    · exact am_mx_no
  all_goals cases hci
/-- the constructors called as they are, by steps -/
def am_ccs (y : Nat) : Bool := Nat.beq y 0 || (Nat.beq y 5 || (Nat.beq y 7 || (Nat.beq y 9 || (Nat.beq y 18 || (Nat.beq y 33 || (Nat.beq y 40 || (Nat.beq y 54 || (Nat.beq y 57 || (Nat.beq y 61 || (Nat.beq y 63 || (Nat.beq y 91 || Nat.beq y 150)))))))))))
def am_clr (n : Nat) : Nat → Nat → List Value → am_S → am_R
  | 0, _, _, _ => none
  | d + 1, y, as, S => if (am_ccs y && am_gr y as S) = true then am_run (am_clr n d) y n 0 (am_ent y as) [] S else none
theorem am_ccs_ci : ∀ y, y < 272 → am_ccs y = false ∨ (pg_m y).flatten.all am_ci = true := by decide +kernel
theorem am_ccs_lt {y : Nat} (h : am_ccs y = true) : y < 272 := by
  unfold am_ccs at h
  simp only [Bool.or_eq_true] at h
  rcases h with h | h | h | h | h | h | h | h | h | h | h | h | h <;> (have := Nat.eq_of_beq_eq_true h; omega)
theorem am_clr_mix {ii : Nat → Nat → Int32} {n : Nat} : ∀ (d y : Nat) (as : List Value) (S : am_S), am_Pc S → am_Mx ii (am_clr n d y as S) (am_clr n d y as (am_mix ii S))
  | 0, _, _, _, _ => am_mx_no
  | d + 1, y, as, S, hS => by
    show am_Mx ii (if (am_ccs y && am_gr y as S) = true then am_run (am_clr n d) y n 0 (am_ent y as) [] S else none) (if (am_ccs y && am_gr y as S) = true then am_run (am_clr n d) y n 0 (am_ent y as) [] (am_mix ii S) else none)
    refine am_mx_ite (fun hc => ?_) (fun _ => am_mx_no)
    have hcc : am_ccs y = true := by
      simp only [Bool.and_eq_true] at hc
      exact hc.1
    have hci : ∀ i, am_ci (pg_cd y i) = true := fun i => by
      rcases pg_cd_mem y i with h1 | h1
      · rw [h1]; rfl
      · rcases am_ccs_ci y (am_ccs_lt hcc) with h2 | h2
        · rw [h2] at hcc; cases hcc
        · exact List.all_eq_true.mp h2 _ h1
    have hr : ∀ (q i : Nat) (lo st : List Value) (S : am_S), am_Pc S → am_Mx ii (am_run (am_clr n d) y q i lo st S) (am_run (am_clr n d) y q i lo st (am_mix ii S)) := by
      intro q
      induction q with
      | zero => intro i lo st S hS; exact am_mx_no
      | succ q ih => intro i lo st S hS; exact am_mxs (fun y as S hS => am_clr_mix d y as S hS) ih _ (hci i) _ _ _ _ hS
    exact hr _ _ _ _ _ hS
theorem am_clr_le {n : Nat} : ∀ (d y : Nat) (as : List Value) (S : am_S), am_Le (am_clr n d y as S) (am_cal d y as S)
  | 0, _, _, _ => am_Le.no
  | d + 1, y, as, S => by
    intro r h
    have h : (if (am_ccs y && am_gr y as S) = true then am_run (am_clr n d) y n 0 (am_ent y as) [] S else none) = some r := h
    by_cases hc : (am_ccs y && am_gr y as S) = true
    · rw [if_pos hc] at h
      simp only [Bool.and_eq_true] at hc
      show (if am_gr y as S = true then am_X (am_cal d) y 0 (am_ent y as) [] S else none) = some r
      rw [if_pos hc.2]
      exact am_X_of (am_run_le (fun z as S => am_clr_le d z as S) y n 0 (am_ent y as) [] S r h)
    · rw [if_neg hc] at h; cases h
end
section
theorem i_vc : Claimed_1_1 ∧ Claimed_1_2 := sorry
end
