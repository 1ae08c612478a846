section
-- ===== PART A: goes FIRST, ahead of the names: the tables' words, and 'selects' of the private methods out of them =====
/-- a private method of a class that the tables say can be made, by its rows of tables_1 -/
def lw_okq (q : MethodName × Nat) : Prop := (q.1.cls ≠ "java/lang/invoke/MethodHandle" ∧ q.1.cls ≠ "java/lang/invoke/VarHandle") ∧ Cond.instantiable q.1.cls q.2 ∈ tables_1 ∧ Cond.privateMethod q.1 ∈ tables_1 ∧ Cond.instanceMethod q.1 ∈ tables_1
theorem lw_p0 : lw_okq (⟨"FormsAboveNought", "refuse", "(I)I"⟩, 9) := ⟨⟨by decide +kernel, by decide +kernel⟩, List.mem_of_getElem? (i := 20) (by decide +kernel), List.mem_of_getElem? (i := 294) (by decide +kernel), List.mem_of_getElem? (i := 295) (by decide +kernel)⟩
theorem lw_p1 : lw_okq (⟨"FormsAboveNought$FormReader", "readMember", "(LFormsAboveNought$Form;Z)Z"⟩, 5) := ⟨⟨by decide +kernel, by decide +kernel⟩, List.mem_of_getElem? (i := 124) (by decide +kernel), List.mem_of_getElem? (i := 325) (by decide +kernel), List.mem_of_getElem? (i := 326) (by decide +kernel)⟩
theorem lw_p2 : lw_okq (⟨"FormsAboveNought$FormReader", "readNumber", "()I"⟩, 5) := ⟨⟨by decide +kernel, by decide +kernel⟩, List.mem_of_getElem? (i := 124) (by decide +kernel), List.mem_of_getElem? (i := 329) (by decide +kernel), List.mem_of_getElem? (i := 330) (by decide +kernel)⟩
theorem lw_p3 : lw_okq (⟨"FormsAboveNought$FormReader", "readPower", "(I)Z"⟩, 5) := ⟨⟨by decide +kernel, by decide +kernel⟩, List.mem_of_getElem? (i := 124) (by decide +kernel), List.mem_of_getElem? (i := 338) (by decide +kernel), List.mem_of_getElem? (i := 339) (by decide +kernel)⟩
theorem lw_p4 : lw_okq (⟨"FormsAboveNought$FormReader", "fits", "(I)Z"⟩, 5) := ⟨⟨by decide +kernel, by decide +kernel⟩, List.mem_of_getElem? (i := 124) (by decide +kernel), List.mem_of_getElem? (i := 342) (by decide +kernel), List.mem_of_getElem? (i := 343) (by decide +kernel)⟩
theorem lw_p5 : lw_okq (⟨"FormsAboveNought", "cameOr", "(Z)I"⟩, 9) := ⟨⟨by decide +kernel, by decide +kernel⟩, List.mem_of_getElem? (i := 20) (by decide +kernel), List.mem_of_getElem? (i := 349) (by decide +kernel), List.mem_of_getElem? (i := 350) (by decide +kernel)⟩
theorem lw_p6 : lw_okq (⟨"FormsAboveNought$ActReader", "readAct", "()Z"⟩, 7) := ⟨⟨by decide +kernel, by decide +kernel⟩, List.mem_of_getElem? (i := 146) (by decide +kernel), List.mem_of_getElem? (i := 361) (by decide +kernel), List.mem_of_getElem? (i := 362) (by decide +kernel)⟩
theorem lw_p7 : lw_okq (⟨"FormsAboveNought$ActReader", "wordAt", "(I)I"⟩, 7) := ⟨⟨by decide +kernel, by decide +kernel⟩, List.mem_of_getElem? (i := 146) (by decide +kernel), List.mem_of_getElem? (i := 365) (by decide +kernel), List.mem_of_getElem? (i := 366) (by decide +kernel)⟩
theorem lw_p8 : lw_okq (⟨"FormsAboveNought$ActReader", "readNumber", "()I"⟩, 7) := ⟨⟨by decide +kernel, by decide +kernel⟩, List.mem_of_getElem? (i := 146) (by decide +kernel), List.mem_of_getElem? (i := 434) (by decide +kernel), List.mem_of_getElem? (i := 435) (by decide +kernel)⟩
theorem lw_p9 : lw_okq (⟨"FormsAboveNought$Shelf", "performOne", "(III)Z"⟩, 5) := ⟨⟨by decide +kernel, by decide +kernel⟩, List.mem_of_getElem? (i := 28) (by decide +kernel), List.mem_of_getElem? (i := 444) (by decide +kernel), List.mem_of_getElem? (i := 445) (by decide +kernel)⟩
theorem lw_p10 : lw_okq (⟨"FormsAboveNought$Shelf", "settle", "()Z"⟩, 5) := ⟨⟨by decide +kernel, by decide +kernel⟩, List.mem_of_getElem? (i := 28) (by decide +kernel), List.mem_of_getElem? (i := 496) (by decide +kernel), List.mem_of_getElem? (i := 497) (by decide +kernel)⟩
theorem lw_p11 : lw_okq (⟨"FormsAboveNought$Shelf", "addTimes", "(JIILFormsAboveNought$Form;)V"⟩, 5) := ⟨⟨by decide +kernel, by decide +kernel⟩, List.mem_of_getElem? (i := 28) (by decide +kernel), List.mem_of_getElem? (i := 510) (by decide +kernel), List.mem_of_getElem? (i := 511) (by decide +kernel)⟩
theorem lw_p12 : lw_okq (⟨"FormsAboveNought$Work", "raiseOnce", "(I)V"⟩, 2) := ⟨⟨by decide +kernel, by decide +kernel⟩, List.mem_of_getElem? (i := 36) (by decide +kernel), List.mem_of_getElem? (i := 523) (by decide +kernel), List.mem_of_getElem? (i := 524) (by decide +kernel)⟩
theorem lw_p13 : lw_okq (⟨"FormsAboveNought", "lacksTerm", "(II)Z"⟩, 9) := ⟨⟨by decide +kernel, by decide +kernel⟩, List.mem_of_getElem? (i := 20) (by decide +kernel), List.mem_of_getElem? (i := 549) (by decide +kernel), List.mem_of_getElem? (i := 550) (by decide +kernel)⟩
theorem lw_p14 : lw_okq (⟨"FormsAboveNought", "refuseFarInt", "(I)I"⟩, 9) := ⟨⟨by decide +kernel, by decide +kernel⟩, List.mem_of_getElem? (i := 20) (by decide +kernel), List.mem_of_getElem? (i := 554) (by decide +kernel), List.mem_of_getElem? (i := 555) (by decide +kernel)⟩
theorem lw_p15 : lw_okq (⟨"FormsAboveNought", "refuseFar", "(I)J"⟩, 9) := ⟨⟨by decide +kernel, by decide +kernel⟩, List.mem_of_getElem? (i := 20) (by decide +kernel), List.mem_of_getElem? (i := 600) (by decide +kernel), List.mem_of_getElem? (i := 601) (by decide +kernel)⟩
def lw_privs_1 : List (MethodName × Nat) := [(⟨"FormsAboveNought", "refuse", "(I)I"⟩, 9), (⟨"FormsAboveNought$FormReader", "readMember", "(LFormsAboveNought$Form;Z)Z"⟩, 5), (⟨"FormsAboveNought$FormReader", "readNumber", "()I"⟩, 5), (⟨"FormsAboveNought$FormReader", "readPower", "(I)Z"⟩, 5), (⟨"FormsAboveNought$FormReader", "fits", "(I)Z"⟩, 5), (⟨"FormsAboveNought", "cameOr", "(Z)I"⟩, 9), (⟨"FormsAboveNought$ActReader", "readAct", "()Z"⟩, 7), (⟨"FormsAboveNought$ActReader", "wordAt", "(I)I"⟩, 7), (⟨"FormsAboveNought$ActReader", "readNumber", "()I"⟩, 7), (⟨"FormsAboveNought$Shelf", "performOne", "(III)Z"⟩, 5), (⟨"FormsAboveNought$Shelf", "settle", "()Z"⟩, 5), (⟨"FormsAboveNought$Shelf", "addTimes", "(JIILFormsAboveNought$Form;)V"⟩, 5), (⟨"FormsAboveNought$Work", "raiseOnce", "(I)V"⟩, 2), (⟨"FormsAboveNought", "lacksTerm", "(II)Z"⟩, 9), (⟨"FormsAboveNought", "refuseFarInt", "(I)I"⟩, 9), (⟨"FormsAboveNought", "refuseFar", "(I)J"⟩, 9)]
theorem lw_r1 : ∀ q ∈ lw_privs_1, lw_okq q := List.forall_mem_cons.mpr ⟨lw_p0, List.forall_mem_cons.mpr ⟨lw_p1, List.forall_mem_cons.mpr ⟨lw_p2, List.forall_mem_cons.mpr ⟨lw_p3, List.forall_mem_cons.mpr ⟨lw_p4, List.forall_mem_cons.mpr ⟨lw_p5, List.forall_mem_cons.mpr ⟨lw_p6, List.forall_mem_cons.mpr ⟨lw_p7, List.forall_mem_cons.mpr ⟨lw_p8, List.forall_mem_cons.mpr ⟨lw_p9, List.forall_mem_cons.mpr ⟨lw_p10, List.forall_mem_cons.mpr ⟨lw_p11, List.forall_mem_cons.mpr ⟨lw_p12, List.forall_mem_cons.mpr ⟨lw_p13, List.forall_mem_cons.mpr ⟨lw_p14, List.forall_mem_cons.mpr ⟨lw_p15, fun _ h => absurd h List.not_mem_nil⟩⟩⟩⟩⟩⟩⟩⟩⟩⟩⟩⟩⟩⟩⟩⟩
theorem lw_p16 : lw_okq (⟨"FormsAboveNought", "workOn", "(II)LFormsAboveNought$Work;"⟩, 9) := ⟨⟨by decide +kernel, by decide +kernel⟩, List.mem_of_getElem? (i := 20) (by decide +kernel), List.mem_of_getElem? (i := 605) (by decide +kernel), List.mem_of_getElem? (i := 606) (by decide +kernel)⟩
theorem lw_p17 : lw_okq (⟨"FormsAboveNought", "pointsRefused", "(IIII)I"⟩, 9) := ⟨⟨by decide +kernel, by decide +kernel⟩, List.mem_of_getElem? (i := 20) (by decide +kernel), List.mem_of_getElem? (i := 669) (by decide +kernel), List.mem_of_getElem? (i := 670) (by decide +kernel)⟩
theorem lw_p18 : lw_okq (⟨"FormsAboveNought$Maker", "fill", "(ILFormsAboveNought$Form;)V"⟩, 4) := ⟨⟨by decide +kernel, by decide +kernel⟩, List.mem_of_getElem? (i := 198) (by decide +kernel), List.mem_of_getElem? (i := 757) (by decide +kernel), List.mem_of_getElem? (i := 758) (by decide +kernel)⟩
theorem lw_p19 : lw_okq (⟨"FormsAboveNought$Maker", "lead", "(II)I"⟩, 4) := ⟨⟨by decide +kernel, by decide +kernel⟩, List.mem_of_getElem? (i := 198) (by decide +kernel), List.mem_of_getElem? (i := 762) (by decide +kernel), List.mem_of_getElem? (i := 763) (by decide +kernel)⟩
theorem lw_p20 : lw_okq (⟨"FormsAboveNought$Maker", "leader", "(II)I"⟩, 4) := ⟨⟨by decide +kernel, by decide +kernel⟩, List.mem_of_getElem? (i := 198) (by decide +kernel), List.mem_of_getElem? (i := 766) (by decide +kernel), List.mem_of_getElem? (i := 767) (by decide +kernel)⟩
theorem lw_p21 : lw_okq (⟨"FormsAboveNought$Maker", "takeAway", "(III)V"⟩, 4) := ⟨⟨by decide +kernel, by decide +kernel⟩, List.mem_of_getElem? (i := 198) (by decide +kernel), List.mem_of_getElem? (i := 770) (by decide +kernel), List.mem_of_getElem? (i := 771) (by decide +kernel)⟩
theorem lw_p22 : lw_okq (⟨"FormsAboveNought$Speller", "spellTerm", "(LFormsAboveNought$Form;III)V"⟩, 3) := ⟨⟨by decide +kernel, by decide +kernel⟩, List.mem_of_getElem? (i := 180) (by decide +kernel), List.mem_of_getElem? (i := 813) (by decide +kernel), List.mem_of_getElem? (i := 814) (by decide +kernel)⟩
theorem lw_p23 : lw_okq (⟨"FormsAboveNought$Speller", "add", "(I)V"⟩, 3) := ⟨⟨by decide +kernel, by decide +kernel⟩, List.mem_of_getElem? (i := 180) (by decide +kernel), List.mem_of_getElem? (i := 818) (by decide +kernel), List.mem_of_getElem? (i := 819) (by decide +kernel)⟩
theorem lw_p24 : lw_okq (⟨"FormsAboveNought$Speller", "spellNumber", "(I)V"⟩, 3) := ⟨⟨by decide +kernel, by decide +kernel⟩, List.mem_of_getElem? (i := 180) (by decide +kernel), List.mem_of_getElem? (i := 823) (by decide +kernel), List.mem_of_getElem? (i := 824) (by decide +kernel)⟩
theorem lw_p25 : lw_okq (⟨"FormsAboveNought$Speller", "spellPower", "(II)V"⟩, 3) := ⟨⟨by decide +kernel, by decide +kernel⟩, List.mem_of_getElem? (i := 180) (by decide +kernel), List.mem_of_getElem? (i := 827) (by decide +kernel), List.mem_of_getElem? (i := 828) (by decide +kernel)⟩
theorem lw_p26 : lw_okq (⟨"FormsAboveNoughtModel", "no", "(I)I"⟩, 44) := ⟨⟨by decide +kernel, by decide +kernel⟩, List.mem_of_getElem? (i := 913) (by decide +kernel), List.mem_of_getElem? (i := 1056) (by decide +kernel), List.mem_of_getElem? (i := 1057) (by decide +kernel)⟩
theorem lw_p27 : lw_okq (⟨"FormsAboveNoughtModel", "isForm", "(I)Z"⟩, 44) := ⟨⟨by decide +kernel, by decide +kernel⟩, List.mem_of_getElem? (i := 913) (by decide +kernel), List.mem_of_getElem? (i := 1064) (by decide +kernel), List.mem_of_getElem? (i := 1065) (by decide +kernel)⟩
theorem lw_p28 : lw_okq (⟨"FormsAboveNoughtModel", "sums", "(II)I"⟩, 44) := ⟨⟨by decide +kernel, by decide +kernel⟩, List.mem_of_getElem? (i := 913) (by decide +kernel), List.mem_of_getElem? (i := 1071) (by decide +kernel), List.mem_of_getElem? (i := 1072) (by decide +kernel)⟩
theorem lw_p29 : lw_okq (⟨"FormsAboveNoughtModel", "isTerm", "(II)Z"⟩, 44) := ⟨⟨by decide +kernel, by decide +kernel⟩, List.mem_of_getElem? (i := 913) (by decide +kernel), List.mem_of_getElem? (i := 1075) (by decide +kernel), List.mem_of_getElem? (i := 1076) (by decide +kernel)⟩
theorem lw_p30 : lw_okq (⟨"FormsAboveNoughtModel", "coefficientOf", "(II)I"⟩, 44) := ⟨⟨by decide +kernel, by decide +kernel⟩, List.mem_of_getElem? (i := 913) (by decide +kernel), List.mem_of_getElem? (i := 1082) (by decide +kernel), List.mem_of_getElem? (i := 1083) (by decide +kernel)⟩
theorem lw_p31 : lw_okq (⟨"FormsAboveNoughtModel", "toldAt", "(III)I"⟩, 44) := ⟨⟨by decide +kernel, by decide +kernel⟩, List.mem_of_getElem? (i := 913) (by decide +kernel), List.mem_of_getElem? (i := 1092) (by decide +kernel), List.mem_of_getElem? (i := 1093) (by decide +kernel)⟩
def lw_privs_2 : List (MethodName × Nat) := [(⟨"FormsAboveNought", "workOn", "(II)LFormsAboveNought$Work;"⟩, 9), (⟨"FormsAboveNought", "pointsRefused", "(IIII)I"⟩, 9), (⟨"FormsAboveNought$Maker", "fill", "(ILFormsAboveNought$Form;)V"⟩, 4), (⟨"FormsAboveNought$Maker", "lead", "(II)I"⟩, 4), (⟨"FormsAboveNought$Maker", "leader", "(II)I"⟩, 4), (⟨"FormsAboveNought$Maker", "takeAway", "(III)V"⟩, 4), (⟨"FormsAboveNought$Speller", "spellTerm", "(LFormsAboveNought$Form;III)V"⟩, 3), (⟨"FormsAboveNought$Speller", "add", "(I)V"⟩, 3), (⟨"FormsAboveNought$Speller", "spellNumber", "(I)V"⟩, 3), (⟨"FormsAboveNought$Speller", "spellPower", "(II)V"⟩, 3), (⟨"FormsAboveNoughtModel", "no", "(I)I"⟩, 44), (⟨"FormsAboveNoughtModel", "isForm", "(I)Z"⟩, 44), (⟨"FormsAboveNoughtModel", "sums", "(II)I"⟩, 44), (⟨"FormsAboveNoughtModel", "isTerm", "(II)Z"⟩, 44), (⟨"FormsAboveNoughtModel", "coefficientOf", "(II)I"⟩, 44), (⟨"FormsAboveNoughtModel", "toldAt", "(III)I"⟩, 44)]
theorem lw_r2 : ∀ q ∈ lw_privs_2, lw_okq q := List.forall_mem_cons.mpr ⟨lw_p16, List.forall_mem_cons.mpr ⟨lw_p17, List.forall_mem_cons.mpr ⟨lw_p18, List.forall_mem_cons.mpr ⟨lw_p19, List.forall_mem_cons.mpr ⟨lw_p20, List.forall_mem_cons.mpr ⟨lw_p21, List.forall_mem_cons.mpr ⟨lw_p22, List.forall_mem_cons.mpr ⟨lw_p23, List.forall_mem_cons.mpr ⟨lw_p24, List.forall_mem_cons.mpr ⟨lw_p25, List.forall_mem_cons.mpr ⟨lw_p26, List.forall_mem_cons.mpr ⟨lw_p27, List.forall_mem_cons.mpr ⟨lw_p28, List.forall_mem_cons.mpr ⟨lw_p29, List.forall_mem_cons.mpr ⟨lw_p30, List.forall_mem_cons.mpr ⟨lw_p31, fun _ h => absurd h List.not_mem_nil⟩⟩⟩⟩⟩⟩⟩⟩⟩⟩⟩⟩⟩⟩⟩⟩
theorem lw_p32 : lw_okq (⟨"FormsAboveNoughtModel", "comesIf", "(I)I"⟩, 44) := ⟨⟨by decide +kernel, by decide +kernel⟩, List.mem_of_getElem? (i := 913) (by decide +kernel), List.mem_of_getElem? (i := 1099) (by decide +kernel), List.mem_of_getElem? (i := 1100) (by decide +kernel)⟩
theorem lw_p33 : lw_okq (⟨"FormsAboveNoughtModel", "canCome", "(I)Z"⟩, 44) := ⟨⟨by decide +kernel, by decide +kernel⟩, List.mem_of_getElem? (i := 913) (by decide +kernel), List.mem_of_getElem? (i := 1103) (by decide +kernel), List.mem_of_getElem? (i := 1104) (by decide +kernel)⟩
theorem lw_p34 : lw_okq (⟨"FormsAboveNoughtModel", "comes", "(I)I"⟩, 44) := ⟨⟨by decide +kernel, by decide +kernel⟩, List.mem_of_getElem? (i := 913) (by decide +kernel), List.mem_of_getElem? (i := 1109) (by decide +kernel), List.mem_of_getElem? (i := 1110) (by decide +kernel)⟩
theorem lw_p35 : lw_okq (⟨"FormsAboveNoughtModel", "told", "(I)I"⟩, 44) := ⟨⟨by decide +kernel, by decide +kernel⟩, List.mem_of_getElem? (i := 913) (by decide +kernel), List.mem_of_getElem? (i := 1113) (by decide +kernel), List.mem_of_getElem? (i := 1114) (by decide +kernel)⟩
theorem lw_p36 : lw_okq (⟨"FormsAboveNoughtModel", "multiplies", "(II)I"⟩, 44) := ⟨⟨by decide +kernel, by decide +kernel⟩, List.mem_of_getElem? (i := 913) (by decide +kernel), List.mem_of_getElem? (i := 1121) (by decide +kernel), List.mem_of_getElem? (i := 1122) (by decide +kernel)⟩
theorem lw_p37 : lw_okq (⟨"FormsAboveNoughtModel", "lifts", "(II)I"⟩, 44) := ⟨⟨by decide +kernel, by decide +kernel⟩, List.mem_of_getElem? (i := 913) (by decide +kernel), List.mem_of_getElem? (i := 1132) (by decide +kernel), List.mem_of_getElem? (i := 1133) (by decide +kernel)⟩
theorem lw_p38 : lw_okq (⟨"FormsAboveNoughtModel", "takes", "(III)V"⟩, 44) := ⟨⟨by decide +kernel, by decide +kernel⟩, List.mem_of_getElem? (i := 913) (by decide +kernel), List.mem_of_getElem? (i := 1136) (by decide +kernel), List.mem_of_getElem? (i := 1137) (by decide +kernel)⟩
theorem lw_p39 : lw_okq (⟨"FormsAboveNoughtModel", "rises", "(I)V"⟩, 44) := ⟨⟨by decide +kernel, by decide +kernel⟩, List.mem_of_getElem? (i := 913) (by decide +kernel), List.mem_of_getElem? (i := 1143) (by decide +kernel), List.mem_of_getElem? (i := 1144) (by decide +kernel)⟩
theorem lw_p40 : lw_okq (⟨"FormsAboveNoughtModel", "turnsBelow", "(I)I"⟩, 44) := ⟨⟨by decide +kernel, by decide +kernel⟩, List.mem_of_getElem? (i := 913) (by decide +kernel), List.mem_of_getElem? (i := 1151) (by decide +kernel), List.mem_of_getElem? (i := 1152) (by decide +kernel)⟩
theorem lw_p41 : lw_okq (⟨"FormsAboveNoughtModel", "staysOn", "(II)I"⟩, 44) := ⟨⟨by decide +kernel, by decide +kernel⟩, List.mem_of_getElem? (i := 913) (by decide +kernel), List.mem_of_getElem? (i := 1162) (by decide +kernel), List.mem_of_getElem? (i := 1163) (by decide +kernel)⟩
theorem lw_p42 : lw_okq (⟨"FormsAboveNoughtModel", "readsForm", "()I"⟩, 44) := ⟨⟨by decide +kernel, by decide +kernel⟩, List.mem_of_getElem? (i := 913) (by decide +kernel), List.mem_of_getElem? (i := 1174) (by decide +kernel), List.mem_of_getElem? (i := 1175) (by decide +kernel)⟩
theorem lw_p43 : lw_okq (⟨"FormsAboveNoughtModel", "next", "()I"⟩, 44) := ⟨⟨by decide +kernel, by decide +kernel⟩, List.mem_of_getElem? (i := 913) (by decide +kernel), List.mem_of_getElem? (i := 1178) (by decide +kernel), List.mem_of_getElem? (i := 1179) (by decide +kernel)⟩
theorem lw_p44 : lw_okq (⟨"FormsAboveNoughtModel", "readsMember", "(ZI)I"⟩, 44) := ⟨⟨by decide +kernel, by decide +kernel⟩, List.mem_of_getElem? (i := 913) (by decide +kernel), List.mem_of_getElem? (i := 1182) (by decide +kernel), List.mem_of_getElem? (i := 1183) (by decide +kernel)⟩
theorem lw_p45 : lw_okq (⟨"FormsAboveNoughtModel", "isDigit", "()Z"⟩, 44) := ⟨⟨by decide +kernel, by decide +kernel⟩, List.mem_of_getElem? (i := 913) (by decide +kernel), List.mem_of_getElem? (i := 1186) (by decide +kernel), List.mem_of_getElem? (i := 1187) (by decide +kernel)⟩
theorem lw_p46 : lw_okq (⟨"FormsAboveNoughtModel", "readsPower", "(II)Z"⟩, 44) := ⟨⟨by decide +kernel, by decide +kernel⟩, List.mem_of_getElem? (i := 913) (by decide +kernel), List.mem_of_getElem? (i := 1190) (by decide +kernel), List.mem_of_getElem? (i := 1191) (by decide +kernel)⟩
theorem lw_p47 : lw_okq (⟨"FormsAboveNoughtModel", "readsActs", "()Z"⟩, 44) := ⟨⟨by decide +kernel, by decide +kernel⟩, List.mem_of_getElem? (i := 913) (by decide +kernel), List.mem_of_getElem? (i := 1198) (by decide +kernel), List.mem_of_getElem? (i := 1199) (by decide +kernel)⟩
def lw_privs_3 : List (MethodName × Nat) := [(⟨"FormsAboveNoughtModel", "comesIf", "(I)I"⟩, 44), (⟨"FormsAboveNoughtModel", "canCome", "(I)Z"⟩, 44), (⟨"FormsAboveNoughtModel", "comes", "(I)I"⟩, 44), (⟨"FormsAboveNoughtModel", "told", "(I)I"⟩, 44), (⟨"FormsAboveNoughtModel", "multiplies", "(II)I"⟩, 44), (⟨"FormsAboveNoughtModel", "lifts", "(II)I"⟩, 44), (⟨"FormsAboveNoughtModel", "takes", "(III)V"⟩, 44), (⟨"FormsAboveNoughtModel", "rises", "(I)V"⟩, 44), (⟨"FormsAboveNoughtModel", "turnsBelow", "(I)I"⟩, 44), (⟨"FormsAboveNoughtModel", "staysOn", "(II)I"⟩, 44), (⟨"FormsAboveNoughtModel", "readsForm", "()I"⟩, 44), (⟨"FormsAboveNoughtModel", "next", "()I"⟩, 44), (⟨"FormsAboveNoughtModel", "readsMember", "(ZI)I"⟩, 44), (⟨"FormsAboveNoughtModel", "isDigit", "()Z"⟩, 44), (⟨"FormsAboveNoughtModel", "readsPower", "(II)Z"⟩, 44), (⟨"FormsAboveNoughtModel", "readsActs", "()Z"⟩, 44)]
theorem lw_r3 : ∀ q ∈ lw_privs_3, lw_okq q := List.forall_mem_cons.mpr ⟨lw_p32, List.forall_mem_cons.mpr ⟨lw_p33, List.forall_mem_cons.mpr ⟨lw_p34, List.forall_mem_cons.mpr ⟨lw_p35, List.forall_mem_cons.mpr ⟨lw_p36, List.forall_mem_cons.mpr ⟨lw_p37, List.forall_mem_cons.mpr ⟨lw_p38, List.forall_mem_cons.mpr ⟨lw_p39, List.forall_mem_cons.mpr ⟨lw_p40, List.forall_mem_cons.mpr ⟨lw_p41, List.forall_mem_cons.mpr ⟨lw_p42, List.forall_mem_cons.mpr ⟨lw_p43, List.forall_mem_cons.mpr ⟨lw_p44, List.forall_mem_cons.mpr ⟨lw_p45, List.forall_mem_cons.mpr ⟨lw_p46, List.forall_mem_cons.mpr ⟨lw_p47, fun _ h => absurd h List.not_mem_nil⟩⟩⟩⟩⟩⟩⟩⟩⟩⟩⟩⟩⟩⟩⟩⟩
theorem lw_p48 : lw_okq (⟨"FormsAboveNoughtModel", "readsAct", "()Z"⟩, 44) := ⟨⟨by decide +kernel, by decide +kernel⟩, List.mem_of_getElem? (i := 913) (by decide +kernel), List.mem_of_getElem? (i := 1202) (by decide +kernel), List.mem_of_getElem? (i := 1203) (by decide +kernel)⟩
theorem lw_p49 : lw_okq (⟨"FormsAboveNoughtModel", "readsWord", "()I"⟩, 44) := ⟨⟨by decide +kernel, by decide +kernel⟩, List.mem_of_getElem? (i := 913) (by decide +kernel), List.mem_of_getElem? (i := 1206) (by decide +kernel), List.mem_of_getElem? (i := 1207) (by decide +kernel)⟩
theorem lw_p50 : lw_okq (⟨"FormsAboveNoughtModel", "isWord", "(IIIIII)Z"⟩, 44) := ⟨⟨by decide +kernel, by decide +kernel⟩, List.mem_of_getElem? (i := 913) (by decide +kernel), List.mem_of_getElem? (i := 1210) (by decide +kernel), List.mem_of_getElem? (i := 1211) (by decide +kernel)⟩
theorem lw_p51 : lw_okq (⟨"FormsAboveNoughtModel", "readsNumber", "()I"⟩, 44) := ⟨⟨by decide +kernel, by decide +kernel⟩, List.mem_of_getElem? (i := 913) (by decide +kernel), List.mem_of_getElem? (i := 1214) (by decide +kernel), List.mem_of_getElem? (i := 1215) (by decide +kernel)⟩
theorem lw_p52 : lw_okq (⟨"FormsAboveNoughtModel", "does", "(I)I"⟩, 44) := ⟨⟨by decide +kernel, by decide +kernel⟩, List.mem_of_getElem? (i := 913) (by decide +kernel), List.mem_of_getElem? (i := 1218) (by decide +kernel), List.mem_of_getElem? (i := 1219) (by decide +kernel)⟩
theorem lw_p53 : lw_okq (⟨"FormsAboveNoughtModel", "far", "(I)I"⟩, 44) := ⟨⟨by decide +kernel, by decide +kernel⟩, List.mem_of_getElem? (i := 913) (by decide +kernel), List.mem_of_getElem? (i := 1232) (by decide +kernel), List.mem_of_getElem? (i := 1233) (by decide +kernel)⟩
theorem lw_p54 : lw_okq (⟨"FormsAboveNoughtModel", "notes", "(II)V"⟩, 44) := ⟨⟨by decide +kernel, by decide +kernel⟩, List.mem_of_getElem? (i := 913) (by decide +kernel), List.mem_of_getElem? (i := 1237) (by decide +kernel), List.mem_of_getElem? (i := 1238) (by decide +kernel)⟩
theorem lw_p55 : lw_okq (⟨"FormsAboveNoughtModel", "many", "(II)I"⟩, 44) := ⟨⟨by decide +kernel, by decide +kernel⟩, List.mem_of_getElem? (i := 913) (by decide +kernel), List.mem_of_getElem? (i := 1249) (by decide +kernel), List.mem_of_getElem? (i := 1250) (by decide +kernel)⟩
theorem lw_p56 : lw_okq (⟨"FormsAboveNoughtModel", "lower", "(I)J"⟩, 44) := ⟨⟨by decide +kernel, by decide +kernel⟩, List.mem_of_getElem? (i := 913) (by decide +kernel), List.mem_of_getElem? (i := 1265) (by decide +kernel), List.mem_of_getElem? (i := 1266) (by decide +kernel)⟩
theorem lw_p57 : lw_okq (⟨"FormsAboveNoughtModel", "valueAt", "(IIII)J"⟩, 44) := ⟨⟨by decide +kernel, by decide +kernel⟩, List.mem_of_getElem? (i := 913) (by decide +kernel), List.mem_of_getElem? (i := 1270) (by decide +kernel), List.mem_of_getElem? (i := 1271) (by decide +kernel)⟩
theorem lw_p58 : lw_okq (⟨"FormsAboveNoughtModel", "notSide", "(II)I"⟩, 44) := ⟨⟨by decide +kernel, by decide +kernel⟩, List.mem_of_getElem? (i := 913) (by decide +kernel), List.mem_of_getElem? (i := 1281) (by decide +kernel), List.mem_of_getElem? (i := 1282) (by decide +kernel)⟩
theorem lw_p59 : lw_okq (⟨"FormsAboveNoughtModel", "firstFault", "(II)I"⟩, 44) := ⟨⟨by decide +kernel, by decide +kernel⟩, List.mem_of_getElem? (i := 913) (by decide +kernel), List.mem_of_getElem? (i := 1292) (by decide +kernel), List.mem_of_getElem? (i := 1293) (by decide +kernel)⟩
theorem lw_p60 : lw_okq (⟨"FormsAboveNoughtModel", "leastOf", "(III)I"⟩, 44) := ⟨⟨by decide +kernel, by decide +kernel⟩, List.mem_of_getElem? (i := 913) (by decide +kernel), List.mem_of_getElem? (i := 1300) (by decide +kernel), List.mem_of_getElem? (i := 1301) (by decide +kernel)⟩
theorem lw_p61 : lw_okq (⟨"FormsAboveNoughtModel", "failsAt", "(IIII)I"⟩, 44) := ⟨⟨by decide +kernel, by decide +kernel⟩, List.mem_of_getElem? (i := 913) (by decide +kernel), List.mem_of_getElem? (i := 1308) (by decide +kernel), List.mem_of_getElem? (i := 1309) (by decide +kernel)⟩
theorem lw_p62 : lw_okq (⟨"FormsAboveNoughtModel", "looks", "(IIII)I"⟩, 44) := ⟨⟨by decide +kernel, by decide +kernel⟩, List.mem_of_getElem? (i := 913) (by decide +kernel), List.mem_of_getElem? (i := 1312) (by decide +kernel), List.mem_of_getElem? (i := 1313) (by decide +kernel)⟩
theorem lw_p63 : lw_okq (⟨"FormsAboveNoughtModel", "firstPoint", "(I)V"⟩, 44) := ⟨⟨by decide +kernel, by decide +kernel⟩, List.mem_of_getElem? (i := 913) (by decide +kernel), List.mem_of_getElem? (i := 1316) (by decide +kernel), List.mem_of_getElem? (i := 1317) (by decide +kernel)⟩
def lw_privs_4 : List (MethodName × Nat) := [(⟨"FormsAboveNoughtModel", "readsAct", "()Z"⟩, 44), (⟨"FormsAboveNoughtModel", "readsWord", "()I"⟩, 44), (⟨"FormsAboveNoughtModel", "isWord", "(IIIIII)Z"⟩, 44), (⟨"FormsAboveNoughtModel", "readsNumber", "()I"⟩, 44), (⟨"FormsAboveNoughtModel", "does", "(I)I"⟩, 44), (⟨"FormsAboveNoughtModel", "far", "(I)I"⟩, 44), (⟨"FormsAboveNoughtModel", "notes", "(II)V"⟩, 44), (⟨"FormsAboveNoughtModel", "many", "(II)I"⟩, 44), (⟨"FormsAboveNoughtModel", "lower", "(I)J"⟩, 44), (⟨"FormsAboveNoughtModel", "valueAt", "(IIII)J"⟩, 44), (⟨"FormsAboveNoughtModel", "notSide", "(II)I"⟩, 44), (⟨"FormsAboveNoughtModel", "firstFault", "(II)I"⟩, 44), (⟨"FormsAboveNoughtModel", "leastOf", "(III)I"⟩, 44), (⟨"FormsAboveNoughtModel", "failsAt", "(IIII)I"⟩, 44), (⟨"FormsAboveNoughtModel", "looks", "(IIII)I"⟩, 44), (⟨"FormsAboveNoughtModel", "firstPoint", "(I)V"⟩, 44)]
theorem lw_r4 : ∀ q ∈ lw_privs_4, lw_okq q := List.forall_mem_cons.mpr ⟨lw_p48, List.forall_mem_cons.mpr ⟨lw_p49, List.forall_mem_cons.mpr ⟨lw_p50, List.forall_mem_cons.mpr ⟨lw_p51, List.forall_mem_cons.mpr ⟨lw_p52, List.forall_mem_cons.mpr ⟨lw_p53, List.forall_mem_cons.mpr ⟨lw_p54, List.forall_mem_cons.mpr ⟨lw_p55, List.forall_mem_cons.mpr ⟨lw_p56, List.forall_mem_cons.mpr ⟨lw_p57, List.forall_mem_cons.mpr ⟨lw_p58, List.forall_mem_cons.mpr ⟨lw_p59, List.forall_mem_cons.mpr ⟨lw_p60, List.forall_mem_cons.mpr ⟨lw_p61, List.forall_mem_cons.mpr ⟨lw_p62, List.forall_mem_cons.mpr ⟨lw_p63, fun _ h => absurd h List.not_mem_nil⟩⟩⟩⟩⟩⟩⟩⟩⟩⟩⟩⟩⟩⟩⟩⟩
theorem lw_p64 : lw_okq (⟨"FormsAboveNoughtModel", "isPointOn", "(I)Z"⟩, 44) := ⟨⟨by decide +kernel, by decide +kernel⟩, List.mem_of_getElem? (i := 913) (by decide +kernel), List.mem_of_getElem? (i := 1320) (by decide +kernel), List.mem_of_getElem? (i := 1321) (by decide +kernel)⟩
theorem lw_p65 : lw_okq (⟨"FormsAboveNoughtModel", "nextPoint", "(I)Z"⟩, 44) := ⟨⟨by decide +kernel, by decide +kernel⟩, List.mem_of_getElem? (i := 913) (by decide +kernel), List.mem_of_getElem? (i := 1324) (by decide +kernel), List.mem_of_getElem? (i := 1325) (by decide +kernel)⟩
theorem lw_p66 : lw_okq (⟨"FormsAboveNoughtModel", "notLooked", "(IIII)I"⟩, 44) := ⟨⟨by decide +kernel, by decide +kernel⟩, List.mem_of_getElem? (i := 913) (by decide +kernel), List.mem_of_getElem? (i := 1332) (by decide +kernel), List.mem_of_getElem? (i := 1333) (by decide +kernel)⟩
theorem lw_p67 : lw_okq (⟨"FormsAboveNoughtModel", "isTold", "(I)Z"⟩, 44) := ⟨⟨by decide +kernel, by decide +kernel⟩, List.mem_of_getElem? (i := 913) (by decide +kernel), List.mem_of_getElem? (i := 1358) (by decide +kernel), List.mem_of_getElem? (i := 1359) (by decide +kernel)⟩
theorem lw_p68 : lw_okq (⟨"FormsAboveNoughtModel", "wallOf", "(III)J"⟩, 44) := ⟨⟨by decide +kernel, by decide +kernel⟩, List.mem_of_getElem? (i := 913) (by decide +kernel), List.mem_of_getElem? (i := 1362) (by decide +kernel), List.mem_of_getElem? (i := 1363) (by decide +kernel)⟩
theorem lw_p69 : lw_okq (⟨"FormsAboveNoughtModel", "isSetOf", "(II)Z"⟩, 44) := ⟨⟨by decide +kernel, by decide +kernel⟩, List.mem_of_getElem? (i := 913) (by decide +kernel), List.mem_of_getElem? (i := 1377) (by decide +kernel), List.mem_of_getElem? (i := 1378) (by decide +kernel)⟩
theorem lw_p70 : lw_okq (⟨"FormsAboveNoughtModel", "isSmall", "(I)Z"⟩, 44) := ⟨⟨by decide +kernel, by decide +kernel⟩, List.mem_of_getElem? (i := 913) (by decide +kernel), List.mem_of_getElem? (i := 1381) (by decide +kernel), List.mem_of_getElem? (i := 1382) (by decide +kernel)⟩
theorem lw_p71 : lw_okq (⟨"FormsAboveNoughtModel", "fillsColumns", "(I)V"⟩, 44) := ⟨⟨by decide +kernel, by decide +kernel⟩, List.mem_of_getElem? (i := 913) (by decide +kernel), List.mem_of_getElem? (i := 1385) (by decide +kernel), List.mem_of_getElem? (i := 1386) (by decide +kernel)⟩
theorem lw_p72 : lw_okq (⟨"FormsAboveNoughtModel", "laysColumn", "(II)V"⟩, 44) := ⟨⟨by decide +kernel, by decide +kernel⟩, List.mem_of_getElem? (i := 913) (by decide +kernel), List.mem_of_getElem? (i := 1389) (by decide +kernel), List.mem_of_getElem? (i := 1390) (by decide +kernel)⟩
theorem lw_p73 : lw_okq (⟨"FormsAboveNoughtModel", "isNew", "()Z"⟩, 44) := ⟨⟨by decide +kernel, by decide +kernel⟩, List.mem_of_getElem? (i := 913) (by decide +kernel), List.mem_of_getElem? (i := 1393) (by decide +kernel), List.mem_of_getElem? (i := 1394) (by decide +kernel)⟩
theorem lw_p74 : lw_okq (⟨"FormsAboveNoughtModel", "findsRows", "(IIII)Z"⟩, 44) := ⟨⟨by decide +kernel, by decide +kernel⟩, List.mem_of_getElem? (i := 913) (by decide +kernel), List.mem_of_getElem? (i := 1397) (by decide +kernel), List.mem_of_getElem? (i := 1398) (by decide +kernel)⟩
theorem lw_p75 : lw_okq (⟨"FormsAboveNoughtModel", "minor", "(IIII)J"⟩, 44) := ⟨⟨by decide +kernel, by decide +kernel⟩, List.mem_of_getElem? (i := 913) (by decide +kernel), List.mem_of_getElem? (i := 1401) (by decide +kernel), List.mem_of_getElem? (i := 1402) (by decide +kernel)⟩
theorem lw_p76 : lw_okq (⟨"FormsAboveNoughtModel", "at", "(II)J"⟩, 44) := ⟨⟨by decide +kernel, by decide +kernel⟩, List.mem_of_getElem? (i := 913) (by decide +kernel), List.mem_of_getElem? (i := 1405) (by decide +kernel), List.mem_of_getElem? (i := 1406) (by decide +kernel)⟩
theorem lw_p77 : lw_okq (⟨"FormsAboveNoughtModel", "two", "(IIII)J"⟩, 44) := ⟨⟨by decide +kernel, by decide +kernel⟩, List.mem_of_getElem? (i := 913) (by decide +kernel), List.mem_of_getElem? (i := 1409) (by decide +kernel), List.mem_of_getElem? (i := 1410) (by decide +kernel)⟩
theorem lw_p78 : lw_okq (⟨"FormsAboveNoughtModel", "isMade", "()Z"⟩, 44) := ⟨⟨by decide +kernel, by decide +kernel⟩, List.mem_of_getElem? (i := 913) (by decide +kernel), List.mem_of_getElem? (i := 1413) (by decide +kernel), List.mem_of_getElem? (i := 1414) (by decide +kernel)⟩
theorem lw_p79 : lw_okq (⟨"FormsAboveNoughtModel", "upOf", "(I)J"⟩, 44) := ⟨⟨by decide +kernel, by decide +kernel⟩, List.mem_of_getElem? (i := 913) (by decide +kernel), List.mem_of_getElem? (i := 1417) (by decide +kernel), List.mem_of_getElem? (i := 1418) (by decide +kernel)⟩
def lw_privs_5 : List (MethodName × Nat) := [(⟨"FormsAboveNoughtModel", "isPointOn", "(I)Z"⟩, 44), (⟨"FormsAboveNoughtModel", "nextPoint", "(I)Z"⟩, 44), (⟨"FormsAboveNoughtModel", "notLooked", "(IIII)I"⟩, 44), (⟨"FormsAboveNoughtModel", "isTold", "(I)Z"⟩, 44), (⟨"FormsAboveNoughtModel", "wallOf", "(III)J"⟩, 44), (⟨"FormsAboveNoughtModel", "isSetOf", "(II)Z"⟩, 44), (⟨"FormsAboveNoughtModel", "isSmall", "(I)Z"⟩, 44), (⟨"FormsAboveNoughtModel", "fillsColumns", "(I)V"⟩, 44), (⟨"FormsAboveNoughtModel", "laysColumn", "(II)V"⟩, 44), (⟨"FormsAboveNoughtModel", "isNew", "()Z"⟩, 44), (⟨"FormsAboveNoughtModel", "findsRows", "(IIII)Z"⟩, 44), (⟨"FormsAboveNoughtModel", "minor", "(IIII)J"⟩, 44), (⟨"FormsAboveNoughtModel", "at", "(II)J"⟩, 44), (⟨"FormsAboveNoughtModel", "two", "(IIII)J"⟩, 44), (⟨"FormsAboveNoughtModel", "isMade", "()Z"⟩, 44), (⟨"FormsAboveNoughtModel", "upOf", "(I)J"⟩, 44)]
theorem lw_r5 : ∀ q ∈ lw_privs_5, lw_okq q := List.forall_mem_cons.mpr ⟨lw_p64, List.forall_mem_cons.mpr ⟨lw_p65, List.forall_mem_cons.mpr ⟨lw_p66, List.forall_mem_cons.mpr ⟨lw_p67, List.forall_mem_cons.mpr ⟨lw_p68, List.forall_mem_cons.mpr ⟨lw_p69, List.forall_mem_cons.mpr ⟨lw_p70, List.forall_mem_cons.mpr ⟨lw_p71, List.forall_mem_cons.mpr ⟨lw_p72, List.forall_mem_cons.mpr ⟨lw_p73, List.forall_mem_cons.mpr ⟨lw_p74, List.forall_mem_cons.mpr ⟨lw_p75, List.forall_mem_cons.mpr ⟨lw_p76, List.forall_mem_cons.mpr ⟨lw_p77, List.forall_mem_cons.mpr ⟨lw_p78, List.forall_mem_cons.mpr ⟨lw_p79, fun _ h => absurd h List.not_mem_nil⟩⟩⟩⟩⟩⟩⟩⟩⟩⟩⟩⟩⟩⟩⟩⟩
theorem lw_p80 : lw_okq (⟨"FormsAboveNoughtModel", "spells", "(I)V"⟩, 44) := ⟨⟨by decide +kernel, by decide +kernel⟩, List.mem_of_getElem? (i := 913) (by decide +kernel), List.mem_of_getElem? (i := 1425) (by decide +kernel), List.mem_of_getElem? (i := 1426) (by decide +kernel)⟩
theorem lw_p81 : lw_okq (⟨"FormsAboveNoughtModel", "puts", "(I)V"⟩, 44) := ⟨⟨by decide +kernel, by decide +kernel⟩, List.mem_of_getElem? (i := 913) (by decide +kernel), List.mem_of_getElem? (i := 1429) (by decide +kernel), List.mem_of_getElem? (i := 1430) (by decide +kernel)⟩
theorem lw_p82 : lw_okq (⟨"FormsAboveNoughtModel", "putsNumber", "(I)V"⟩, 44) := ⟨⟨by decide +kernel, by decide +kernel⟩, List.mem_of_getElem? (i := 913) (by decide +kernel), List.mem_of_getElem? (i := 1433) (by decide +kernel), List.mem_of_getElem? (i := 1434) (by decide +kernel)⟩
theorem lw_p83 : lw_okq (⟨"FormsAboveNoughtModel", "draw", "(I)I"⟩, 44) := ⟨⟨by decide +kernel, by decide +kernel⟩, List.mem_of_getElem? (i := 913) (by decide +kernel), List.mem_of_getElem? (i := 1441) (by decide +kernel), List.mem_of_getElem? (i := 1442) (by decide +kernel)⟩
theorem lw_p84 : lw_okq (⟨"FormsAboveNoughtModel", "notPlace", "(II)I"⟩, 44) := ⟨⟨by decide +kernel, by decide +kernel⟩, List.mem_of_getElem? (i := 913) (by decide +kernel), List.mem_of_getElem? (i := 1456) (by decide +kernel), List.mem_of_getElem? (i := 1457) (by decide +kernel)⟩
theorem lw_p85 : lw_okq (⟨"FormsAboveNoughtModel", "passesAll", "(Z)V"⟩, 44) := ⟨⟨by decide +kernel, by decide +kernel⟩, List.mem_of_getElem? (i := 913) (by decide +kernel), List.mem_of_getElem? (i := 1476) (by decide +kernel), List.mem_of_getElem? (i := 1477) (by decide +kernel)⟩
theorem lw_p86 : lw_okq (⟨"FormsAboveNoughtModel", "passOne", "(I)I"⟩, 44) := ⟨⟨by decide +kernel, by decide +kernel⟩, List.mem_of_getElem? (i := 913) (by decide +kernel), List.mem_of_getElem? (i := 1480) (by decide +kernel), List.mem_of_getElem? (i := 1481) (by decide +kernel)⟩
theorem lw_p87 : lw_okq (⟨"FormsAboveNoughtModel", "allTerms", "()I"⟩, 44) := ⟨⟨by decide +kernel, by decide +kernel⟩, List.mem_of_getElem? (i := 913) (by decide +kernel), List.mem_of_getElem? (i := 1492) (by decide +kernel), List.mem_of_getElem? (i := 1493) (by decide +kernel)⟩
theorem lw_p88 : lw_okq (⟨"FormsAboveNoughtModel", "clearOnes", "()I"⟩, 44) := ⟨⟨by decide +kernel, by decide +kernel⟩, List.mem_of_getElem? (i := 913) (by decide +kernel), List.mem_of_getElem? (i := 1496) (by decide +kernel), List.mem_of_getElem? (i := 1497) (by decide +kernel)⟩
def lw_privs_6 : List (MethodName × Nat) := [(⟨"FormsAboveNoughtModel", "spells", "(I)V"⟩, 44), (⟨"FormsAboveNoughtModel", "puts", "(I)V"⟩, 44), (⟨"FormsAboveNoughtModel", "putsNumber", "(I)V"⟩, 44), (⟨"FormsAboveNoughtModel", "draw", "(I)I"⟩, 44), (⟨"FormsAboveNoughtModel", "notPlace", "(II)I"⟩, 44), (⟨"FormsAboveNoughtModel", "passesAll", "(Z)V"⟩, 44), (⟨"FormsAboveNoughtModel", "passOne", "(I)I"⟩, 44), (⟨"FormsAboveNoughtModel", "allTerms", "()I"⟩, 44), (⟨"FormsAboveNoughtModel", "clearOnes", "()I"⟩, 44)]
theorem lw_r6 : ∀ q ∈ lw_privs_6, lw_okq q := List.forall_mem_cons.mpr ⟨lw_p80, List.forall_mem_cons.mpr ⟨lw_p81, List.forall_mem_cons.mpr ⟨lw_p82, List.forall_mem_cons.mpr ⟨lw_p83, List.forall_mem_cons.mpr ⟨lw_p84, List.forall_mem_cons.mpr ⟨lw_p85, List.forall_mem_cons.mpr ⟨lw_p86, List.forall_mem_cons.mpr ⟨lw_p87, List.forall_mem_cons.mpr ⟨lw_p88, fun _ h => absurd h List.not_mem_nil⟩⟩⟩⟩⟩⟩⟩⟩⟩
def lw_privs : List (MethodName × Nat) := lw_privs_1 ++ (lw_privs_2 ++ (lw_privs_3 ++ (lw_privs_4 ++ (lw_privs_5 ++ (lw_privs_6)))))
def lw_tbl : List Cond := k2_sels lw_privs ++ tables_1
theorem lw_privs_ok : ∀ q ∈ lw_privs, lw_okq q := by
  show ∀ q ∈ lw_privs_1 ++ (lw_privs_2 ++ (lw_privs_3 ++ (lw_privs_4 ++ (lw_privs_5 ++ (lw_privs_6))))), lw_okq q
  exact List.forall_mem_append.mpr ⟨lw_r1, List.forall_mem_append.mpr ⟨lw_r2, List.forall_mem_append.mpr ⟨lw_r3, List.forall_mem_append.mpr ⟨lw_r4, List.forall_mem_append.mpr ⟨lw_r5, lw_r6⟩⟩⟩⟩⟩
-- ===== end of PART A; then your names; then what follows =====
end
section
/-! the heap as numbers: ints, longs, references by cell and place; a walk V in step with its pure answer F -/
def pq_G : List Cond := lw_tbl.filter goodWord
theorem pq_in {w : Cond} (i : Nat) (h : lw_tbl[i]? = some w) (g : goodWord w = true) : w ∈ pq_G := List.mem_filter.mpr ⟨List.mem_of_getElem? h, g⟩
theorem pq_t0 {w : Cond} (i : Nat) (h : (k2_sels lw_privs)[i]? = some w) (g : goodWord w = true) : w ∈ pq_G := List.mem_filter.mpr ⟨List.mem_append_left _ (List.mem_of_getElem? h), g⟩
theorem pq_t1 {w : Cond} (i : Nat) (h : tables_1_1[i]? = some w) (g : goodWord w = true) : w ∈ pq_G := List.mem_filter.mpr ⟨List.mem_append_right _ (List.mem_append_left _ (List.mem_of_getElem? h)), g⟩
theorem pq_t2 {w : Cond} (i : Nat) (h : tables_1_2[i]? = some w) (g : goodWord w = true) : w ∈ pq_G := List.mem_filter.mpr ⟨List.mem_append_right _ (List.mem_append_right _ (List.mem_append_left _ (List.mem_of_getElem? h))), g⟩
theorem pq_t3 {w : Cond} (i : Nat) (h : tables_1_3[i]? = some w) (g : goodWord w = true) : w ∈ pq_G := List.mem_filter.mpr ⟨List.mem_append_right _ (List.mem_append_right _ (List.mem_append_right _ (List.mem_append_left _ (List.mem_of_getElem? h)))), g⟩
theorem pq_t4 {w : Cond} (i : Nat) (h : tables_1_4[i]? = some w) (g : goodWord w = true) : w ∈ pq_G := List.mem_filter.mpr ⟨List.mem_append_right _ (List.mem_append_right _ (List.mem_append_right _ (List.mem_append_right _ (List.mem_append_left _ (List.mem_of_getElem? h))))), g⟩
theorem pq_t5 {w : Cond} (i : Nat) (h : tables_1_5[i]? = some w) (g : goodWord w = true) : w ∈ pq_G := List.mem_filter.mpr ⟨List.mem_append_right _ (List.mem_append_right _ (List.mem_append_right _ (List.mem_append_right _ (List.mem_append_right _ (List.mem_append_left _ (List.mem_of_getElem? h)))))), g⟩
theorem pq_t6 {w : Cond} (i : Nat) (h : tables_1_6[i]? = some w) (g : goodWord w = true) : w ∈ pq_G := List.mem_filter.mpr ⟨List.mem_append_right _ (List.mem_append_right _ (List.mem_append_right _ (List.mem_append_right _ (List.mem_append_right _ (List.mem_append_right _ (List.mem_append_left _ (List.mem_of_getElem? h))))))), g⟩
theorem pq_t7 {w : Cond} (i : Nat) (h : tables_1_7[i]? = some w) (g : goodWord w = true) : w ∈ pq_G := List.mem_filter.mpr ⟨List.mem_append_right _ (List.mem_append_right _ (List.mem_append_right _ (List.mem_append_right _ (List.mem_append_right _ (List.mem_append_right _ (List.mem_append_right _ (List.mem_of_getElem? h))))))), g⟩
theorem pq_goodIn {y : MethodName} {b : ByteArray} {n : Nat} {ret : Option FieldType} {Ts : List Cond} (hc : Cond.code y b n ret ∈ Ts) (hG : ∀ w ∈ pq_G, w ∈ Ts) : GoodIn Ts (Cond.code y b n ret :: pq_G) := by
  intro w hw
  rcases List.mem_cons.mp hw with rfl | hw
  · exact ⟨hc, Or.inl rfl⟩
  · exact ⟨hG w hw, good_of_word (List.mem_filter.mp hw).2⟩
abbrev pq_H : Type := (Nat → Nat → Int32) × (Nat → Nat → Int64) × (Nat → Nat → Option Nat)
def rI (h : pq_H) (p k : Nat) : Int32 := h.1 p k
def rJ (h : pq_H) (p k : Nat) : Int64 := h.2.1 p k
def rR (h : pq_H) (p k : Nat) : Option Nat := h.2.2 p k
def wI (h : pq_H) (p k : Nat) (v : Int32) : pq_H := (fun q j => if q = p ∧ j = k then v else h.1 q j, h.2)
def wJ (h : pq_H) (p k : Nat) (v : Int64) : pq_H := (h.1, fun q j => if q = p ∧ j = k then v else h.2.1 q j, h.2.2)
def wR (h : pq_H) (p k : Nat) (v : Option Nat) : pq_H := (h.1, h.2.1, fun q j => if q = p ∧ j = k then v else h.2.2 q j)
abbrev pq_C : Type := Nat → (Nat → Int32) → (Nat → Int64) → (Nat → Option Nat) → va_E
abbrev pq_S : Type := (Nat × (Nat → Nat) × pq_C) × (va_G × List vw_C × List (ClassId × FieldType)) × ((Nat → Prop) → State → Heap → Prop)
def pq_W (S : pq_S) (h : pq_H) : va_W := (List.range S.1.1).map fun p => (S.1.2.1 p, S.1.2.2 p (h.1 p) (h.2.1 p) (h.2.2 p))
theorem pq_get {S : pq_S} {h : pq_H} {p : Nat} {e : va_E} (hp : p < S.1.1) (he : S.1.2.2 p (h.1 p) (h.2.1 p) (h.2.2 p) = e) : (pq_W S h)[p]? = some (S.1.2.1 p, e) := by
  unfold pq_W
  rw [List.getElem?_map, List.getElem?_range hp, ← he]
  rfl
theorem pq_set {S : pq_S} {h h' : pq_H} {p : Nat} {e : va_E} (hp : p < S.1.1) (he : S.1.2.2 p (h'.1 p) (h'.2.1 p) (h'.2.2 p) = e) (ho : ∀ q, q ≠ p → h'.1 q = h.1 q ∧ h'.2.1 q = h.2.1 q ∧ h'.2.2 q = h.2.2 q) : (pq_W S h).set p (S.1.2.1 p, e) = pq_W S h' := by
  apply List.ext_getElem?
  intro k
  by_cases hk : k = p
  · subst hk
    rw [List.getElem?_set_self (by simp [pq_W]; exact hp), pq_get hp he]
  · rw [List.getElem?_set_ne (fun q => hk q.symm)]
    by_cases hl : k < S.1.1
    · obtain ⟨h1, h2, h3⟩ := ho k hk
      rw [pq_get hl rfl, pq_get hl rfl, h1, h2, h3]
    · rw [List.getElem?_eq_none (by simp [pq_W]; omega), List.getElem?_eq_none (by simp [pq_W]; omega)]
theorem wI_ne {h : pq_H} {p k : Nat} {v : Int32} (q : Nat) (hq : q ≠ p) : (wI h p k v).1 q = h.1 q ∧ (wI h p k v).2.1 q = h.2.1 q ∧ (wI h p k v).2.2 q = h.2.2 q := ⟨funext fun j => if_neg (fun z => hq z.1), rfl, rfl⟩
theorem wJ_ne {h : pq_H} {p k : Nat} {v : Int64} (q : Nat) (hq : q ≠ p) : (wJ h p k v).1 q = h.1 q ∧ (wJ h p k v).2.1 q = h.2.1 q ∧ (wJ h p k v).2.2 q = h.2.2 q := ⟨rfl, funext fun j => if_neg (fun z => hq z.1), rfl⟩
theorem wR_ne {h : pq_H} {p k : Nat} {v : Option Nat} (q : Nat) (hq : q ≠ p) : (wR h p k v).1 q = h.1 q ∧ (wR h p k v).2.1 q = h.2.1 q ∧ (wR h p k v).2.2 q = h.2.2 q := ⟨rfl, rfl, funext fun j => if_neg (fun z => hq z.1)⟩
theorem wI_self (h : pq_H) (p k : Nat) (v : Int32) : (wI h p k v).1 p = upd (h.1 p) k v := funext fun j => by
  show (if p = p ∧ j = k then v else h.1 p j) = if j = k then v else h.1 p j
  by_cases hj : j = k
  · rw [if_pos ⟨rfl, hj⟩, if_pos hj]
  · rw [if_neg (fun z => hj z.2), if_neg hj]
theorem wJ_self (h : pq_H) (p k : Nat) (v : Int64) : (wJ h p k v).2.1 p = vp_updL (h.2.1 p) k v := funext fun j => by
  show (if p = p ∧ j = k then v else h.2.1 p j) = if j = k then v else h.2.1 p j
  by_cases hj : j = k
  · rw [if_pos ⟨rfl, hj⟩, if_pos hj]
  · rw [if_neg (fun z => hj z.2), if_neg hj]
theorem wR_self (h : pq_H) (p k : Nat) (v : Option Nat) : (wR h p k v).2.2 p = va_up (h.2.2 p) k v := funext fun j => by
  show (if p = p ∧ j = k then v else h.2.2 p j) = if j = k then v else h.2.2 p j
  by_cases hj : j = k
  · rw [if_pos ⟨rfl, hj⟩, if_pos hj]
  · rw [if_neg (fun z => hj z.2), if_neg hj]
abbrev pq_X : Type := (Program × Launch × Env × Room × State) × (MethodId × Array Value × List Frame × Method × Code) × ((State → Prop) × (Nat → Prop) × Heap)
/-- the walk from a place, with locals L, a stack, a heap h: if the pure answer F is res, it comes to Q -/
def V (X : pq_X) (S : pq_S) {α : Type} (res : α) (nL pc : Nat) (L : List (Nat × Value)) (st : List Value) (h : pq_H) (F : Option α) : Prop :=
  F = some res → ∀ (ls : Array Slot) (H : Heap) (locs : List Loc), lv_has ls nL L → va_P S.2.1.1 S.2.1.2.1 (pq_W S h) H → va_S X.2.2.2.1 X.2.2.2.2 H locs → W X.1.1 X.1.2.1 X.1.2.2.1 X.1.2.2.2.1 X.1.2.2.2.2 X.2.1.1 X.2.1.2.1 X.2.1.2.2.1 X.2.1.2.2.2.1 X.2.1.2.2.2.2 H locs 0 0 X.2.2.1 (F0 X.2.1.1 pc ls st)
/-- the machine, the code -/
def pq_B (X : pq_X) (b : ByteArray) (nL : Nat) (own : String) : Prop := X.1.1.tables.exec = Jvm.exec ∧ X.2.1.2.2.2.2.code = b ∧ X.2.1.2.2.2.2.maxLocals = nL ∧ X.1.2.2.2.2.vm.findClass own = some X.2.1.1.cls ∧ ∀ w ∈ pq_G, w.before X.2.1.2.1 X.1.2.2.2.2 = true
/-- what a world says of the state beside its cells -/
def pq_K (X : pq_X) (S : pq_S) : Prop := va_K S.2.1.1 S.2.1.2.1 S.2.1.2.2 X.1.2.2.2.2 ∧ (∀ h, va_D X.2.2.2.1 (pq_W S h)) ∧ X.2.2.2.2 = X.1.2.2.2.2.heap ∧ S.2.2 X.2.2.2.1 X.1.2.2.2.2 X.1.2.2.2.2.heap ∧ (∀ (s U : State) (H H' : Heap), s.WarmedH U.vm → H.size ≤ H'.size → (∀ q : Nat, q < H.size → ¬ X.2.2.2.1 q → H'[q]? = H[q]?) → S.2.2 X.2.2.2.1 s H → S.2.2 X.2.2.2.1 U H')
def pq_Wd (S : pq_S) (A : Nat → Prop) (h : pq_H) (U : State) : Prop := va_P S.2.1.1 S.2.1.2.1 (pq_W S h) U.heap ∧ va_K S.2.1.1 S.2.1.2.1 S.2.1.2.2 U ∧ S.2.2 A U U.heap
def pq_Q (o : Option Value) (h' : pq_H) (S : pq_S) (A : Nat → Prop) : Array Value → State → Outcome → State → Prop := fun _ st oc t => (oc = .returned o ∧ va_P S.2.1.1 S.2.1.2.1 (pq_W S h') t.heap) ∧ va_F A st t
/-- a method's contract: on a heap h it answers o and leaves h' -/
def pq_M (S : pq_S) (A : Nat → Prop) (l : Launch) (y : MethodName) (b : ByteArray) (n : Nat) (ret : Option FieldType) (rf rl : Nat) (av : List Value) (h : pq_H) (o : Option Value) (h' : pq_H) : Prop :=
  Met l y (Cond.code y b n ret :: pq_G) ({ frames := rf, cells := 0, slots := 0, locals := rl }) (va_Pc av (pq_Wd S A h)) (pq_Q o h' S A) 0 0 A
/-- the world's own laws: its cells lie in A, apart; what it says beside them is kept -/
def pq_A (S : pq_S) (A : Nat → Prop) : Prop := (∀ h, va_D A (pq_W S h)) ∧ ∀ (s U : State) (H H' : Heap), s.WarmedH U.vm → H.size ≤ H'.size → (∀ q : Nat, q < H.size → ¬ A q → H'[q]? = H[q]?) → S.2.2 A s H → S.2.2 A U H'
/-- the room and the end of the method in hand -/
def pq_R (X : pq_X) (S : pq_S) (ret : Option FieldType) (rf rl : Nat) (o : Option Value) (h' : pq_H) : Prop := X.1.2.2.2.1 = { frames := rf, cells := 0, slots := 0, locals := rl } ∧ X.2.1.2.2.2.1.sig.returnType = ret ∧ X.2.1.2.2.2.1.locks = false ∧ X.2.2.1 = MQ X.2.1.2.2.1 (pq_Q o h' S X.2.2.2.1) X.2.1.2.1 X.1.2.2.2.2 0 0 X.2.2.2.1
theorem pq_met {S : pq_S} {A : Nat → Prop} (hA : pq_A S A) (l : Launch) {y : MethodName} {b : ByteArray} {n : Nat} {ret : Option FieldType} {own : String} (rf rl : Nat) (av : List Value) (L : List (Nat × Value)) (h : pq_H) (o : Option Value) (h' : pq_H)
    (hy : plainName y.cls = true) (ho : y.cls = own) (hlen : (lg_sl av).length ≤ n) (hL : lv_args 0 av = L)
    (key : ∀ X : pq_X, X.1.2.1 = l → X.2.2.2.1 = A → pq_B X b n own → pq_K X S → pq_R X S ret rf rl o h' → V X S () n 0 L [] h (some ())) : pq_M S A l y b n ret rf rl av h o h' := by
  subst ho
  refine Met.ofW (cc := b) (maxL := n) (ret := ret) hy rfl ?_
  intro p e s m args below meth c s₁ B hml hv
  obtain ⟨rfl, hP, hK, hE⟩ := hv
  have hts : ∀ w ∈ pq_G, w.before av.toArray s = true := fun w hw => atoms_spec (ws := Cond.code y b n ret :: pq_G) B.pre w (List.mem_cons_of_mem _ hw)
  have hl := lv_entry av (n := n) hlen
  rw [lg_entry_eq]
  rw [hL] at hl
  have k := key ((p, l, e, { frames := rf, cells := 0, slots := 0, locals := rl }, s), (m, av.toArray, below, meth, c), (MQ below (pq_Q o h' S A) av.toArray s 0 0 A, A, s.heap)) rfl rfl ⟨B.exec, B.bytes, hml, findClass_of_methodNamed B.named, hts⟩ ⟨hK, hA.1, rfl, hE, hA.2⟩ ⟨rfl, B.returns, B.notSynchronized, rfl⟩
  exact k rfl _ _ _ hl hP va_S.rf
def b2i (b : Bool) : Int32 := match b with | true => 1 | false => 0
def inb (i : Int32) (n : Nat) : Bool := !(decide (i < 0) || decide (n ≤ i.toNatClampNeg))
def gd {β : Type} (c : Bool) (F : Option β) : Option β := match c with | true => F | false => none
def lp {σ : Type} (z : σ) (f : σ → σ) : Nat → σ | 0 => z | n + 1 => f (lp z f n)
theorem inb_in {i : Int32} {n : Nat} (h : inb i n = true) : vp_in i n := by
  unfold inb at h
  unfold vp_in
  intro q
  rcases q with q | q <;> simp [q] at h
theorem inb_lt {i : Int32} {n : Nat} (h : inb i n = true) : i.toNatClampNeg < n := Nat.not_le.mp fun q => inb_in h (Or.inr q)
theorem gd_some {β : Type} {c : Bool} {F : Option β} {r : β} (h : gd c F = some r) : c = true ∧ F = some r := by
  cases c
  · cases h
  · exact ⟨rfl, h⟩
section PQ
variable {X : pq_X} {S : pq_S} {α : Type} {res : α} {nL pc : Nat} {L : List (Nat × Value)} {st : List Value} {h : pq_H} {F : Option α} {b : ByteArray} {own : String}
theorem V.none (pc : Nat) (L : List (Nat × Value)) (st : List Value) (h : pq_H) : V X S res nL pc L st h none := fun e => by cases e
theorem V.sub {L' : List (Nat × Value)} (ks : List Nat) (hl : lv_pick L ks = L') (k : V X S res nL pc L' st h F) : V X S res nL pc L st h F := fun e ls H locs a hP hS => k e ls H locs (lv_sub a ks hl) hP hS
theorem V.cast {β : Type} {res' : β} {F' : Option β} (hF : F = some res → F' = some res') (k : V X S res' nL pc L st h F') : V X S res nL pc L st h F := fun e => k (hF e)
theorem v_iadd (hB : pq_B X b nL own) {a c : Int32} (d : decode b pc = .ok (.iadd, 1)) (k : V X S res nL (pc + 1) L (.int (a + c) :: st) h F) : V X S res nL pc L (.int c :: .int a :: st) h F := fun e ls H locs hl hP hS => lv_iadd hB.1 hB.2.1 d (k e ls H locs hl hP hS)
theorem v_isub (hB : pq_B X b nL own) {a c : Int32} (d : decode b pc = .ok (.isub, 1)) (k : V X S res nL (pc + 1) L (.int (a - c) :: st) h F) : V X S res nL pc L (.int c :: .int a :: st) h F := fun e ls H locs hl hP hS => lv_isub hB.1 hB.2.1 d (k e ls H locs hl hP hS)
theorem v_imul (hB : pq_B X b nL own) {a c : Int32} (d : decode b pc = .ok (.imul, 1)) (k : V X S res nL (pc + 1) L (.int (a * c) :: st) h F) : V X S res nL pc L (.int c :: .int a :: st) h F := fun e ls H locs hl hP hS => lv_imul hB.1 hB.2.1 d (k e ls H locs hl hP hS)
theorem v_iand (hB : pq_B X b nL own) {a c : Int32} (d : decode b pc = .ok (.iand, 1)) (k : V X S res nL (pc + 1) L (.int (a &&& c) :: st) h F) : V X S res nL pc L (.int c :: .int a :: st) h F := fun e ls H locs hl hP hS => lv_iand hB.1 hB.2.1 d (k e ls H locs hl hP hS)
theorem v_ior (hB : pq_B X b nL own) {a c : Int32} (d : decode b pc = .ok (.ior, 1)) (k : V X S res nL (pc + 1) L (.int (a ||| c) :: st) h F) : V X S res nL pc L (.int c :: .int a :: st) h F := fun e ls H locs hl hP hS => lv_ior hB.1 hB.2.1 d (k e ls H locs hl hP hS)
theorem v_ixor (hB : pq_B X b nL own) {a c : Int32} (d : decode b pc = .ok (.ixor, 1)) (k : V X S res nL (pc + 1) L (.int (a ^^^ c) :: st) h F) : V X S res nL pc L (.int c :: .int a :: st) h F := fun e ls H locs hl hP hS => lv_ixor hB.1 hB.2.1 d (k e ls H locs hl hP hS)
theorem v_ladd (hB : pq_B X b nL own) {a c : Int64} (d : decode b pc = .ok (.ladd, 1)) (k : V X S res nL (pc + 1) L (.long (a + c) :: st) h F) : V X S res nL pc L (.long c :: .long a :: st) h F := fun e ls H locs hl hP hS => lv_ladd hB.1 hB.2.1 d (k e ls H locs hl hP hS)
theorem v_lsub (hB : pq_B X b nL own) {a c : Int64} (d : decode b pc = .ok (.lsub, 1)) (k : V X S res nL (pc + 1) L (.long (a - c) :: st) h F) : V X S res nL pc L (.long c :: .long a :: st) h F := fun e ls H locs hl hP hS => lv_lsub hB.1 hB.2.1 d (k e ls H locs hl hP hS)
theorem v_lmul (hB : pq_B X b nL own) {a c : Int64} (d : decode b pc = .ok (.lmul, 1)) (k : V X S res nL (pc + 1) L (.long (a * c) :: st) h F) : V X S res nL pc L (.long c :: .long a :: st) h F := fun e ls H locs hl hP hS => lv_lmul hB.1 hB.2.1 d (k e ls H locs hl hP hS)
theorem v_ineg (hB : pq_B X b nL own) {a : Int32} (d : decode b pc = .ok (.ineg, 1)) (k : V X S res nL (pc + 1) L (.int (-a) :: st) h F) : V X S res nL pc L (.int a :: st) h F := fun e ls H locs hl hP hS => lv_ineg hB.1 hB.2.1 d (k e ls H locs hl hP hS)
theorem v_lneg (hB : pq_B X b nL own) {a : Int64} (d : decode b pc = .ok (.lneg, 1)) (k : V X S res nL (pc + 1) L (.long (-a) :: st) h F) : V X S res nL pc L (.long a :: st) h F := fun e ls H locs hl hP hS => lv_lneg hB.1 hB.2.1 d (k e ls H locs hl hP hS)
theorem v_ishl (hB : pq_B X b nL own) {a c : Int32} (d : decode b pc = .ok (.ishl, 1)) (k : V X S res nL (pc + 1) L (.int (a <<< (c &&& 31)) :: st) h F) : V X S res nL pc L (.int c :: .int a :: st) h F := fun e ls H locs hl hP hS => lv_ishl hB.1 hB.2.1 d (k e ls H locs hl hP hS)
theorem v_ishr (hB : pq_B X b nL own) {a c : Int32} (d : decode b pc = .ok (.ishr, 1)) (k : V X S res nL (pc + 1) L (.int (a >>> (c &&& 31)) :: st) h F) : V X S res nL pc L (.int c :: .int a :: st) h F := fun e ls H locs hl hP hS => lv_ishr hB.1 hB.2.1 d (k e ls H locs hl hP hS)
theorem v_idiv (hB : pq_B X b nL own) {a c : Int32} (d : decode b pc = .ok (.idiv, 1)) (hne : ¬ c = 0) (k : V X S res nL (pc + 1) L (.int (a / c) :: st) h F) : V X S res nL pc L (.int c :: .int a :: st) h F := fun e ls H locs hl hP hS => lv_idiv hB.1 hB.2.1 d hne (k e ls H locs hl hP hS)
theorem v_irem (hB : pq_B X b nL own) {a c : Int32} (d : decode b pc = .ok (.irem, 1)) (hne : ¬ c = 0) (k : V X S res nL (pc + 1) L (.int (a - a / c * c) :: st) h F) : V X S res nL pc L (.int c :: .int a :: st) h F := fun e ls H locs hl hP hS => lv_irem hB.1 hB.2.1 d hne (k e ls H locs hl hP hS)
theorem v_ldiv (hB : pq_B X b nL own) {a c : Int64} (d : decode b pc = .ok (.ldiv, 1)) (hne : ¬ c = 0) (k : V X S res nL (pc + 1) L (.long (a / c) :: st) h F) : V X S res nL pc L (.long c :: .long a :: st) h F := fun e ls H locs hl hP hS => lv_ldiv hB.1 hB.2.1 d hne (k e ls H locs hl hP hS)
theorem v_lrem (hB : pq_B X b nL own) {a c : Int64} (d : decode b pc = .ok (.lrem, 1)) (hne : ¬ c = 0) (k : V X S res nL (pc + 1) L (.long (a - a / c * c) :: st) h F) : V X S res nL pc L (.long c :: .long a :: st) h F := fun e ls H locs hl hP hS => lv_lrem hB.1 hB.2.1 d hne (k e ls H locs hl hP hS)
theorem v_i2l (hB : pq_B X b nL own) {a : Int32} (d : decode b pc = .ok (.i2l, 1)) (k : V X S res nL (pc + 1) L (.long a.toInt64 :: st) h F) : V X S res nL pc L (.int a :: st) h F := fun e ls H locs hl hP hS => lv_i2l hB.1 hB.2.1 d rfl (k e ls H locs hl hP hS)
theorem v_l2i (hB : pq_B X b nL own) {a : Int64} (d : decode b pc = .ok (.l2i, 1)) (k : V X S res nL (pc + 1) L (.int a.toInt32 :: st) h F) : V X S res nL pc L (.long a :: st) h F := fun e ls H locs hl hP hS => lv_l2i hB.1 hB.2.1 d rfl (k e ls H locs hl hP hS)
theorem v_iconst (hB : pq_B X b nL own) {n : Int} (v : Int32) (d : decode b pc = .ok (.iconst n, 1)) (hv : Int32.ofInt n = v) (k : V X S res nL (pc + 1) L (.int v :: st) h F) : V X S res nL pc L (st) h F := fun e ls H locs hl hP hS => lv_iconst hB.1 hB.2.1 d hv (k e ls H locs hl hP hS)
theorem v_bipush (hB : pq_B X b nL own) {n : Int} (v : Int32) (d : decode b pc = .ok (.bipush n, 2)) (hv : (Int8.ofInt n).toInt32 = v) (k : V X S res nL (pc + 2) L (.int v :: st) h F) : V X S res nL pc L (st) h F := fun e ls H locs hl hP hS => lv_bipush hB.1 hB.2.1 d hv (k e ls H locs hl hP hS)
theorem v_sipush (hB : pq_B X b nL own) {n : Int} (v : Int32) (d : decode b pc = .ok (.sipush n, 3)) (hv : (Int16.ofInt n).toInt32 = v) (k : V X S res nL (pc + 3) L (.int v :: st) h F) : V X S res nL pc L (st) h F := fun e ls H locs hl hP hS => lv_sipush hB.1 hB.2.1 d hv (k e ls H locs hl hP hS)
theorem v_lconst (hB : pq_B X b nL own) {n : Fin 2} (v : Int64) (d : decode b pc = .ok (.lconst n, 1)) (hv : Int64.ofNat (n : Nat) = v) (k : V X S res nL (pc + 1) L (.long v :: st) h F) : V X S res nL pc L (st) h F := fun e ls H locs hl hP hS => lv_lconst hB.1 hB.2.1 d hv (k e ls H locs hl hP hS)
theorem v_ldc (hB : pq_B X b nL own) {i : Nat} (v : Int32) (hc : Cond.constant own i v ∈ pq_G) (d : decode b pc = .ok (.ldc i, 2)) (k : V X S res nL (pc + 2) L (.int v :: st) h F) : V X S res nL pc L st h F := fun e ls H locs hl hP hS => lv_ldc hB.1 hB.2.1 hB.2.2.2.1 (hB.2.2.2.2 _ hc) d (k e ls H locs hl hP hS)
theorem v_ldcw (hB : pq_B X b nL own) {i : Nat} (v : Int32) (hc : Cond.constant own i v ∈ pq_G) (d : decode b pc = .ok (.ldc_w i, 3)) (k : V X S res nL (pc + 3) L (.int v :: st) h F) : V X S res nL pc L st h F := fun e ls H locs hl hP hS => lv_ldcw hB.1 hB.2.1 hB.2.2.2.1 (hB.2.2.2.2 _ hc) d (k e ls H locs hl hP hS)
theorem v_ldc2 (hB : pq_B X b nL own) {i : Nat} (v : Int64) (hc : Cond.constantLong own i v ∈ pq_G) (d : decode b pc = .ok (.ldc2_w i, 3)) (k : V X S res nL (pc + 3) L (.long v :: st) h F) : V X S res nL pc L st h F := fun e ls H locs hl hP hS => lv_ldc2 hB.1 hB.2.1 hB.2.2.2.1 (hB.2.2.2.2 _ hc) d (k e ls H locs hl hP hS)
theorem v_dup (hB : pq_B X b nL own) {va : Value} (d : decode b pc = .ok (.dup, 1)) (hva : va.category = 1) (k : V X S res nL (pc + 1) L (va :: va :: st) h F) : V X S res nL pc L (va :: st) h F := fun e ls H locs hl hP hS => lv_dup hB.1 hB.2.1 d hva (k e ls H locs hl hP hS)
theorem v_pop (hB : pq_B X b nL own) {va : Value} (d : decode b pc = .ok (.pop, 1)) (hva : va.category = 1) (k : V X S res nL (pc + 1) L (st) h F) : V X S res nL pc L (va :: st) h F := fun e ls H locs hl hP hS => lv_pop hB.1 hB.2.1 d hva (k e ls H locs hl hP hS)
theorem v_dup2 (hB : pq_B X b nL own) {va vb : Value} (d : decode b pc = .ok (.dup2, 1)) (hva : va.category = 1) (hvb : vb.category = 1) (k : V X S res nL (pc + 1) L (va :: vb :: va :: vb :: st) h F) : V X S res nL pc L (va :: vb :: st) h F := fun e ls H locs hl hP hS => lv_dup2_11 hB.1 hB.2.1 d hva hvb (k e ls H locs hl hP hS)
theorem v_iload_n (hB : pq_B X b nL own) {kk : Fin 4} {i : Nat} {x : Int32} (j : Nat) (d : decode b pc = .ok (.iload_n kk, 1)) (hi : (kk : Nat) = i) (hL : L[j]? = some (i, .int x)) (k : V X S res nL (pc + 1) L (.int x :: st) h F) : V X S res nL pc L st h F := fun e ls H locs hl hP hS => lv_iload_n hB.1 hB.2.1 d hi (lv_at hl j hL) (k e ls H locs hl hP hS)
theorem v_iload (hB : pq_B X b nL own) {i : Nat} {x : Int32} (j : Nat) (d : decode b pc = .ok (.iload i, 2)) (hL : L[j]? = some (i, .int x)) (k : V X S res nL (pc + 2) L (.int x :: st) h F) : V X S res nL pc L st h F := fun e ls H locs hl hP hS => lv_iload hB.1 hB.2.1 d (lv_at hl j hL) (k e ls H locs hl hP hS)
theorem v_lload_n (hB : pq_B X b nL own) {kk : Fin 4} {i : Nat} {x : Int64} (j : Nat) (d : decode b pc = .ok (.lload_n kk, 1)) (hi : (kk : Nat) = i) (hL : L[j]? = some (i, .long x)) (k : V X S res nL (pc + 1) L (.long x :: st) h F) : V X S res nL pc L st h F := fun e ls H locs hl hP hS => lv_lload_n hB.1 hB.2.1 d hi (lv_at hl j hL) (k e ls H locs hl hP hS)
theorem v_lload (hB : pq_B X b nL own) {i : Nat} {x : Int64} (j : Nat) (d : decode b pc = .ok (.lload i, 2)) (hL : L[j]? = some (i, .long x)) (k : V X S res nL (pc + 2) L (.long x :: st) h F) : V X S res nL pc L st h F := fun e ls H locs hl hP hS => lv_lload hB.1 hB.2.1 d (lv_at hl j hL) (k e ls H locs hl hP hS)
theorem v_aload_n (hB : pq_B X b nL own) {kk : Fin 4} {i : Nat} {x : Nat} (j : Nat) (d : decode b pc = .ok (.aload_n kk, 1)) (hi : (kk : Nat) = i) (hL : L[j]? = some (i, .ref x)) (k : V X S res nL (pc + 1) L (.ref x :: st) h F) : V X S res nL pc L st h F := fun e ls H locs hl hP hS => lv_aload_n hB.1 hB.2.1 d hi (lv_at hl j hL) (k e ls H locs hl hP hS)
theorem v_aload (hB : pq_B X b nL own) {i : Nat} {x : Nat} (j : Nat) (d : decode b pc = .ok (.aload i, 2)) (hL : L[j]? = some (i, .ref x)) (k : V X S res nL (pc + 2) L (.ref x :: st) h F) : V X S res nL pc L st h F := fun e ls H locs hl hP hS => lv_aload hB.1 hB.2.1 d (lv_at hl j hL) (k e ls H locs hl hP hS)
theorem v_istore_n (hB : pq_B X b nL own) {kk : Fin 4} {i : Nat} {x : Int32} (L' : List (Nat × Value)) (ks : List Nat) (d : decode b pc = .ok (.istore_n kk, 1)) (hi : (kk : Nat) = i) (hn : i < nL) (hL : lv_pick ((i, Value.int x) :: L.filter (fun q => !(q.1 == i) && !(q.1 + 1 == i && q.2.category == 2))) ks = L') (k : V X S res nL (pc + 1) L' st h F) : V X S res nL pc L (.int x :: st) h F := fun e ls H locs hl hP hS => lv_istore_n hB.1 hB.2.1 d hi hl hn rfl (fun ls2 hl2 => k e ls2 H locs (lv_sub hl2 ks hL) hP hS)
theorem v_istore (hB : pq_B X b nL own) {i : Nat} {x : Int32} (L' : List (Nat × Value)) (ks : List Nat) (d : decode b pc = .ok (.istore i, 2)) (hn : i < nL) (hL : lv_pick ((i, Value.int x) :: L.filter (fun q => !(q.1 == i) && !(q.1 + 1 == i && q.2.category == 2))) ks = L') (k : V X S res nL (pc + 2) L' st h F) : V X S res nL pc L (.int x :: st) h F := fun e ls H locs hl hP hS => lv_istore hB.1 hB.2.1 d hl hn rfl (fun ls2 hl2 => k e ls2 H locs (lv_sub hl2 ks hL) hP hS)
theorem v_lstore_n (hB : pq_B X b nL own) {kk : Fin 4} {i : Nat} {x : Int64} (L' : List (Nat × Value)) (ks : List Nat) (d : decode b pc = .ok (.lstore_n kk, 1)) (hi : (kk : Nat) = i) (hn : i + 1 < nL) (hL : lv_pick ((i, Value.long x) :: L.filter (fun q => !(q.1 == i) && (!(q.1 == i + 1) && !(q.1 + 1 == i && q.2.category == 2)))) ks = L') (k : V X S res nL (pc + 1) L' st h F) : V X S res nL pc L (.long x :: st) h F := fun e ls H locs hl hP hS => lv_lstore_n hB.1 hB.2.1 d hi hl hn rfl (fun ls2 hl2 => k e ls2 H locs (lv_sub hl2 ks hL) hP hS)
theorem v_lstore (hB : pq_B X b nL own) {i : Nat} {x : Int64} (L' : List (Nat × Value)) (ks : List Nat) (d : decode b pc = .ok (.lstore i, 2)) (hn : i + 1 < nL) (hL : lv_pick ((i, Value.long x) :: L.filter (fun q => !(q.1 == i) && (!(q.1 == i + 1) && !(q.1 + 1 == i && q.2.category == 2)))) ks = L') (k : V X S res nL (pc + 2) L' st h F) : V X S res nL pc L (.long x :: st) h F := fun e ls H locs hl hP hS => lv_lstore hB.1 hB.2.1 d hl hn rfl (fun ls2 hl2 => k e ls2 H locs (lv_sub hl2 ks hL) hP hS)
theorem v_astore_n (hB : pq_B X b nL own) {kk : Fin 4} {i : Nat} {x : Nat} (L' : List (Nat × Value)) (ks : List Nat) (d : decode b pc = .ok (.astore_n kk, 1)) (hi : (kk : Nat) = i) (hn : i < nL) (hL : lv_pick ((i, Value.ref x) :: L.filter (fun q => !(q.1 == i) && !(q.1 + 1 == i && q.2.category == 2))) ks = L') (k : V X S res nL (pc + 1) L' st h F) : V X S res nL pc L (.ref x :: st) h F := fun e ls H locs hl hP hS => lv_astore_n hB.1 hB.2.1 d hi hl hn rfl (fun ls2 hl2 => k e ls2 H locs (lv_sub hl2 ks hL) hP hS)
theorem v_astore (hB : pq_B X b nL own) {i : Nat} {x : Nat} (L' : List (Nat × Value)) (ks : List Nat) (d : decode b pc = .ok (.astore i, 2)) (hn : i < nL) (hL : lv_pick ((i, Value.ref x) :: L.filter (fun q => !(q.1 == i) && !(q.1 + 1 == i && q.2.category == 2))) ks = L') (k : V X S res nL (pc + 2) L' st h F) : V X S res nL pc L (.ref x :: st) h F := fun e ls H locs hl hP hS => lv_astore hB.1 hB.2.1 d hl hn rfl (fun ls2 hl2 => k e ls2 H locs (lv_sub hl2 ks hL) hP hS)
theorem v_iinc (hB : pq_B X b nL own) {i : Nat} {n : Int} {x : Int32} (v : Int32) (L' : List (Nat × Value)) (j : Nat) (ks : List Nat) (d : decode b pc = .ok (.iinc i n, 3)) (hx : L[j]? = some (i, .int x)) (hv : x + Int32.ofInt n = v) (hn : i < nL) (hL : lv_pick ((i, Value.int v) :: L.filter (fun q => !(q.1 == i) && !(q.1 + 1 == i && q.2.category == 2))) ks = L') (k : V X S res nL (pc + 3) L' st h F) : V X S res nL pc L st h F := fun e ls H locs hl hP hS => lv_iinc hB.1 hB.2.1 d hl hx hv hn rfl (fun ls2 hl2 => k e ls2 H locs (lv_sub hl2 ks hL) hP hS)
theorem v_goto (hB : pq_B X b nL own) {off : Int} {tgt : Nat} (d : decode b pc = .ok (.goto off, 3)) (ht : (pc : Int) + off = (tgt : Int)) (k : V X S res nL tgt L st h F) : V X S res nL pc L st h F := fun e ls H locs hl hP hS => lv_goto hB.1 hB.2.1 d ht (k e ls H locs hl hP hS)
theorem v_icmp_eq (hB : pq_B X b nL own) {a c : Int32} {off : Int} {tgt : Nat} {F1 F2 : Option α} (d : decode b pc = .ok (.if_icmp .eq off, 3)) (ht : (pc : Int) + off = (tgt : Int)) (k1 : V X S res nL tgt L st h F1) (k2 : V X S res nL (pc + 3) L st h F2) : V X S res nL pc L (.int c :: .int a :: st) h (if a = c then F1 else F2) := fun e ls H locs hl hP hS => lv_icmp_eq hB.1 hB.2.1 d ht (fun z => (k1 (by rw [if_pos z] at e; exact e) ls H locs hl hP hS)) (fun z => (k2 (by rw [if_neg z] at e; exact e) ls H locs hl hP hS))
theorem v_if_eq (hB : pq_B X b nL own) {a : Int32} {off : Int} {tgt : Nat} {F1 F2 : Option α} (d : decode b pc = .ok (.ifCond .eq off, 3)) (ht : (pc : Int) + off = (tgt : Int)) (k1 : V X S res nL tgt L st h F1) (k2 : V X S res nL (pc + 3) L st h F2) : V X S res nL pc L (.int a :: st) h (if a = 0 then F1 else F2) := fun e ls H locs hl hP hS => lv_if_eq hB.1 hB.2.1 d ht (fun z => (k1 (by rw [if_pos z] at e; exact e) ls H locs hl hP hS)) (fun z => (k2 (by rw [if_neg z] at e; exact e) ls H locs hl hP hS))
theorem v_icmp_ne (hB : pq_B X b nL own) {a c : Int32} {off : Int} {tgt : Nat} {F1 F2 : Option α} (d : decode b pc = .ok (.if_icmp .ne off, 3)) (ht : (pc : Int) + off = (tgt : Int)) (k1 : V X S res nL tgt L st h F1) (k2 : V X S res nL (pc + 3) L st h F2) : V X S res nL pc L (.int c :: .int a :: st) h (if a = c then F2 else F1) := fun e ls H locs hl hP hS => lv_icmp_ne hB.1 hB.2.1 d ht (fun z => (k1 (by rw [if_neg z] at e; exact e) ls H locs hl hP hS)) (fun z => (k2 (by rw [if_pos z] at e; exact e) ls H locs hl hP hS))
theorem v_if_ne (hB : pq_B X b nL own) {a : Int32} {off : Int} {tgt : Nat} {F1 F2 : Option α} (d : decode b pc = .ok (.ifCond .ne off, 3)) (ht : (pc : Int) + off = (tgt : Int)) (k1 : V X S res nL tgt L st h F1) (k2 : V X S res nL (pc + 3) L st h F2) : V X S res nL pc L (.int a :: st) h (if a = 0 then F2 else F1) := fun e ls H locs hl hP hS => lv_if_ne hB.1 hB.2.1 d ht (fun z => (k1 (by rw [if_neg z] at e; exact e) ls H locs hl hP hS)) (fun z => (k2 (by rw [if_pos z] at e; exact e) ls H locs hl hP hS))
theorem v_icmp_lt (hB : pq_B X b nL own) {a c : Int32} {off : Int} {tgt : Nat} {F1 F2 : Option α} (d : decode b pc = .ok (.if_icmp .lt off, 3)) (ht : (pc : Int) + off = (tgt : Int)) (k1 : V X S res nL tgt L st h F1) (k2 : V X S res nL (pc + 3) L st h F2) : V X S res nL pc L (.int c :: .int a :: st) h (if a < c then F1 else F2) := fun e ls H locs hl hP hS => lv_icmp_lt hB.1 hB.2.1 d ht (fun z => (k1 (by rw [if_pos z] at e; exact e) ls H locs hl hP hS)) (fun z => (k2 (by rw [if_neg z] at e; exact e) ls H locs hl hP hS))
theorem v_if_lt (hB : pq_B X b nL own) {a : Int32} {off : Int} {tgt : Nat} {F1 F2 : Option α} (d : decode b pc = .ok (.ifCond .lt off, 3)) (ht : (pc : Int) + off = (tgt : Int)) (k1 : V X S res nL tgt L st h F1) (k2 : V X S res nL (pc + 3) L st h F2) : V X S res nL pc L (.int a :: st) h (if a < 0 then F1 else F2) := fun e ls H locs hl hP hS => lv_if_lt hB.1 hB.2.1 d ht (fun z => (k1 (by rw [if_pos z] at e; exact e) ls H locs hl hP hS)) (fun z => (k2 (by rw [if_neg z] at e; exact e) ls H locs hl hP hS))
theorem v_icmp_ge (hB : pq_B X b nL own) {a c : Int32} {off : Int} {tgt : Nat} {F1 F2 : Option α} (d : decode b pc = .ok (.if_icmp .ge off, 3)) (ht : (pc : Int) + off = (tgt : Int)) (k1 : V X S res nL tgt L st h F1) (k2 : V X S res nL (pc + 3) L st h F2) : V X S res nL pc L (.int c :: .int a :: st) h (if c ≤ a then F1 else F2) := fun e ls H locs hl hP hS => lv_icmp_ge hB.1 hB.2.1 d ht (fun z => (k1 (by rw [if_pos z] at e; exact e) ls H locs hl hP hS)) (fun z => (k2 (by rw [if_neg z] at e; exact e) ls H locs hl hP hS))
theorem v_if_ge (hB : pq_B X b nL own) {a : Int32} {off : Int} {tgt : Nat} {F1 F2 : Option α} (d : decode b pc = .ok (.ifCond .ge off, 3)) (ht : (pc : Int) + off = (tgt : Int)) (k1 : V X S res nL tgt L st h F1) (k2 : V X S res nL (pc + 3) L st h F2) : V X S res nL pc L (.int a :: st) h (if 0 ≤ a then F1 else F2) := fun e ls H locs hl hP hS => lv_if_ge hB.1 hB.2.1 d ht (fun z => (k1 (by rw [if_pos z] at e; exact e) ls H locs hl hP hS)) (fun z => (k2 (by rw [if_neg z] at e; exact e) ls H locs hl hP hS))
theorem v_icmp_gt (hB : pq_B X b nL own) {a c : Int32} {off : Int} {tgt : Nat} {F1 F2 : Option α} (d : decode b pc = .ok (.if_icmp .gt off, 3)) (ht : (pc : Int) + off = (tgt : Int)) (k1 : V X S res nL tgt L st h F1) (k2 : V X S res nL (pc + 3) L st h F2) : V X S res nL pc L (.int c :: .int a :: st) h (if c < a then F1 else F2) := fun e ls H locs hl hP hS => lv_icmp_gt hB.1 hB.2.1 d ht (fun z => (k1 (by rw [if_pos z] at e; exact e) ls H locs hl hP hS)) (fun z => (k2 (by rw [if_neg z] at e; exact e) ls H locs hl hP hS))
theorem v_if_gt (hB : pq_B X b nL own) {a : Int32} {off : Int} {tgt : Nat} {F1 F2 : Option α} (d : decode b pc = .ok (.ifCond .gt off, 3)) (ht : (pc : Int) + off = (tgt : Int)) (k1 : V X S res nL tgt L st h F1) (k2 : V X S res nL (pc + 3) L st h F2) : V X S res nL pc L (.int a :: st) h (if 0 < a then F1 else F2) := fun e ls H locs hl hP hS => lv_if_gt hB.1 hB.2.1 d ht (fun z => (k1 (by rw [if_pos z] at e; exact e) ls H locs hl hP hS)) (fun z => (k2 (by rw [if_neg z] at e; exact e) ls H locs hl hP hS))
theorem v_icmp_le (hB : pq_B X b nL own) {a c : Int32} {off : Int} {tgt : Nat} {F1 F2 : Option α} (d : decode b pc = .ok (.if_icmp .le off, 3)) (ht : (pc : Int) + off = (tgt : Int)) (k1 : V X S res nL tgt L st h F1) (k2 : V X S res nL (pc + 3) L st h F2) : V X S res nL pc L (.int c :: .int a :: st) h (if a ≤ c then F1 else F2) := fun e ls H locs hl hP hS => lv_icmp_le hB.1 hB.2.1 d ht (fun z => (k1 (by rw [if_pos z] at e; exact e) ls H locs hl hP hS)) (fun z => (k2 (by rw [if_neg z] at e; exact e) ls H locs hl hP hS))
theorem v_if_le (hB : pq_B X b nL own) {a : Int32} {off : Int} {tgt : Nat} {F1 F2 : Option α} (d : decode b pc = .ok (.ifCond .le off, 3)) (ht : (pc : Int) + off = (tgt : Int)) (k1 : V X S res nL tgt L st h F1) (k2 : V X S res nL (pc + 3) L st h F2) : V X S res nL pc L (.int a :: st) h (if a ≤ 0 then F1 else F2) := fun e ls H locs hl hP hS => lv_if_le hB.1 hB.2.1 d ht (fun z => (k1 (by rw [if_pos z] at e; exact e) ls H locs hl hP hS)) (fun z => (k2 (by rw [if_neg z] at e; exact e) ls H locs hl hP hS))
theorem v_icmp_eqT (hB : pq_B X b nL own) {a c : Int32} {off : Int} {tgt : Nat} {x1 x2 : α} (d : decode b pc = .ok (.if_icmp .eq off, 3)) (ht : (pc : Int) + off = (tgt : Int)) (k1 : V X S res nL tgt L st h (some x1)) (k2 : V X S res nL (pc + 3) L st h (some x2)) : V X S res nL pc L (.int c :: .int a :: st) h (some (if a = c then x1 else x2)) := V.cast (F' := if a = c then some x1 else some x2) (fun e => by rw [← e]; split <;> rfl) (v_icmp_eq hB d ht k1 k2)
theorem v_if_eqT (hB : pq_B X b nL own) {a : Int32} {off : Int} {tgt : Nat} {x1 x2 : α} (d : decode b pc = .ok (.ifCond .eq off, 3)) (ht : (pc : Int) + off = (tgt : Int)) (k1 : V X S res nL tgt L st h (some x1)) (k2 : V X S res nL (pc + 3) L st h (some x2)) : V X S res nL pc L (.int a :: st) h (some (if a = 0 then x1 else x2)) := V.cast (F' := if a = 0 then some x1 else some x2) (fun e => by rw [← e]; split <;> rfl) (v_if_eq hB d ht k1 k2)
theorem v_icmp_neT (hB : pq_B X b nL own) {a c : Int32} {off : Int} {tgt : Nat} {x1 x2 : α} (d : decode b pc = .ok (.if_icmp .ne off, 3)) (ht : (pc : Int) + off = (tgt : Int)) (k1 : V X S res nL tgt L st h (some x1)) (k2 : V X S res nL (pc + 3) L st h (some x2)) : V X S res nL pc L (.int c :: .int a :: st) h (some (if a = c then x2 else x1)) := V.cast (F' := if a = c then some x2 else some x1) (fun e => by rw [← e]; split <;> rfl) (v_icmp_ne hB d ht k1 k2)
theorem v_if_neT (hB : pq_B X b nL own) {a : Int32} {off : Int} {tgt : Nat} {x1 x2 : α} (d : decode b pc = .ok (.ifCond .ne off, 3)) (ht : (pc : Int) + off = (tgt : Int)) (k1 : V X S res nL tgt L st h (some x1)) (k2 : V X S res nL (pc + 3) L st h (some x2)) : V X S res nL pc L (.int a :: st) h (some (if a = 0 then x2 else x1)) := V.cast (F' := if a = 0 then some x2 else some x1) (fun e => by rw [← e]; split <;> rfl) (v_if_ne hB d ht k1 k2)
theorem v_icmp_ltT (hB : pq_B X b nL own) {a c : Int32} {off : Int} {tgt : Nat} {x1 x2 : α} (d : decode b pc = .ok (.if_icmp .lt off, 3)) (ht : (pc : Int) + off = (tgt : Int)) (k1 : V X S res nL tgt L st h (some x1)) (k2 : V X S res nL (pc + 3) L st h (some x2)) : V X S res nL pc L (.int c :: .int a :: st) h (some (if a < c then x1 else x2)) := V.cast (F' := if a < c then some x1 else some x2) (fun e => by rw [← e]; split <;> rfl) (v_icmp_lt hB d ht k1 k2)
theorem v_if_ltT (hB : pq_B X b nL own) {a : Int32} {off : Int} {tgt : Nat} {x1 x2 : α} (d : decode b pc = .ok (.ifCond .lt off, 3)) (ht : (pc : Int) + off = (tgt : Int)) (k1 : V X S res nL tgt L st h (some x1)) (k2 : V X S res nL (pc + 3) L st h (some x2)) : V X S res nL pc L (.int a :: st) h (some (if a < 0 then x1 else x2)) := V.cast (F' := if a < 0 then some x1 else some x2) (fun e => by rw [← e]; split <;> rfl) (v_if_lt hB d ht k1 k2)
theorem v_icmp_geT (hB : pq_B X b nL own) {a c : Int32} {off : Int} {tgt : Nat} {x1 x2 : α} (d : decode b pc = .ok (.if_icmp .ge off, 3)) (ht : (pc : Int) + off = (tgt : Int)) (k1 : V X S res nL tgt L st h (some x1)) (k2 : V X S res nL (pc + 3) L st h (some x2)) : V X S res nL pc L (.int c :: .int a :: st) h (some (if c ≤ a then x1 else x2)) := V.cast (F' := if c ≤ a then some x1 else some x2) (fun e => by rw [← e]; split <;> rfl) (v_icmp_ge hB d ht k1 k2)
theorem v_if_geT (hB : pq_B X b nL own) {a : Int32} {off : Int} {tgt : Nat} {x1 x2 : α} (d : decode b pc = .ok (.ifCond .ge off, 3)) (ht : (pc : Int) + off = (tgt : Int)) (k1 : V X S res nL tgt L st h (some x1)) (k2 : V X S res nL (pc + 3) L st h (some x2)) : V X S res nL pc L (.int a :: st) h (some (if 0 ≤ a then x1 else x2)) := V.cast (F' := if 0 ≤ a then some x1 else some x2) (fun e => by rw [← e]; split <;> rfl) (v_if_ge hB d ht k1 k2)
theorem v_icmp_gtT (hB : pq_B X b nL own) {a c : Int32} {off : Int} {tgt : Nat} {x1 x2 : α} (d : decode b pc = .ok (.if_icmp .gt off, 3)) (ht : (pc : Int) + off = (tgt : Int)) (k1 : V X S res nL tgt L st h (some x1)) (k2 : V X S res nL (pc + 3) L st h (some x2)) : V X S res nL pc L (.int c :: .int a :: st) h (some (if c < a then x1 else x2)) := V.cast (F' := if c < a then some x1 else some x2) (fun e => by rw [← e]; split <;> rfl) (v_icmp_gt hB d ht k1 k2)
theorem v_if_gtT (hB : pq_B X b nL own) {a : Int32} {off : Int} {tgt : Nat} {x1 x2 : α} (d : decode b pc = .ok (.ifCond .gt off, 3)) (ht : (pc : Int) + off = (tgt : Int)) (k1 : V X S res nL tgt L st h (some x1)) (k2 : V X S res nL (pc + 3) L st h (some x2)) : V X S res nL pc L (.int a :: st) h (some (if 0 < a then x1 else x2)) := V.cast (F' := if 0 < a then some x1 else some x2) (fun e => by rw [← e]; split <;> rfl) (v_if_gt hB d ht k1 k2)
theorem v_icmp_leT (hB : pq_B X b nL own) {a c : Int32} {off : Int} {tgt : Nat} {x1 x2 : α} (d : decode b pc = .ok (.if_icmp .le off, 3)) (ht : (pc : Int) + off = (tgt : Int)) (k1 : V X S res nL tgt L st h (some x1)) (k2 : V X S res nL (pc + 3) L st h (some x2)) : V X S res nL pc L (.int c :: .int a :: st) h (some (if a ≤ c then x1 else x2)) := V.cast (F' := if a ≤ c then some x1 else some x2) (fun e => by rw [← e]; split <;> rfl) (v_icmp_le hB d ht k1 k2)
theorem v_if_leT (hB : pq_B X b nL own) {a : Int32} {off : Int} {tgt : Nat} {x1 x2 : α} (d : decode b pc = .ok (.ifCond .le off, 3)) (ht : (pc : Int) + off = (tgt : Int)) (k1 : V X S res nL tgt L st h (some x1)) (k2 : V X S res nL (pc + 3) L st h (some x2)) : V X S res nL pc L (.int a :: st) h (some (if a ≤ 0 then x1 else x2)) := V.cast (F' := if a ≤ 0 then some x1 else some x2) (fun e => by rw [← e]; split <;> rfl) (v_if_le hB d ht k1 k2)
theorem b2i_0 {r : Bool} : b2i r = 0 ↔ r = false := by cases r <;> decide
theorem v_ifz_eq (hB : pq_B X b nL own) {r : Bool} {off : Int} {tgt : Nat} {F1 F2 : Option α} (d : decode b pc = .ok (.ifCond .eq off, 3)) (ht : (pc : Int) + off = (tgt : Int)) (k1 : V X S res nL tgt L st h F1) (k2 : V X S res nL (pc + 3) L st h F2) : V X S res nL pc L (.int (b2i r) :: st) h (if r = true then F2 else F1) := by
  cases r
  · exact fun e ls H locs hl hP hS => lv_if_eq hB.1 hB.2.1 d ht (fun z => k1 e ls H locs hl hP hS) (fun z => absurd rfl z)
  · exact fun e ls H locs hl hP hS => lv_if_eq hB.1 hB.2.1 d ht (fun z => absurd z (by decide)) (fun z => k2 e ls H locs hl hP hS)
theorem v_ifz_ne (hB : pq_B X b nL own) {r : Bool} {off : Int} {tgt : Nat} {F1 F2 : Option α} (d : decode b pc = .ok (.ifCond .ne off, 3)) (ht : (pc : Int) + off = (tgt : Int)) (k1 : V X S res nL tgt L st h F1) (k2 : V X S res nL (pc + 3) L st h F2) : V X S res nL pc L (.int (b2i r) :: st) h (if r = true then F1 else F2) := by
  cases r
  · exact fun e ls H locs hl hP hS => lv_if_ne hB.1 hB.2.1 d ht (fun z => absurd rfl z) (fun z => k2 e ls H locs hl hP hS)
  · exact fun e ls H locs hl hP hS => lv_if_ne hB.1 hB.2.1 d ht (fun z => k1 e ls H locs hl hP hS) (fun z => absurd z (by decide))
theorem v_ifz_eqT (hB : pq_B X b nL own) {r : Bool} {off : Int} {tgt : Nat} {x1 x2 : α} (d : decode b pc = .ok (.ifCond .eq off, 3)) (ht : (pc : Int) + off = (tgt : Int)) (k1 : V X S res nL tgt L st h (some x1)) (k2 : V X S res nL (pc + 3) L st h (some x2)) : V X S res nL pc L (.int (b2i r) :: st) h (some (if r = true then x2 else x1)) := V.cast (F' := if r = true then some x2 else some x1) (fun e => by rw [← e]; split <;> rfl) (v_ifz_eq hB d ht k1 k2)
theorem v_ifz_neT (hB : pq_B X b nL own) {r : Bool} {off : Int} {tgt : Nat} {x1 x2 : α} (d : decode b pc = .ok (.ifCond .ne off, 3)) (ht : (pc : Int) + off = (tgt : Int)) (k1 : V X S res nL tgt L st h (some x1)) (k2 : V X S res nL (pc + 3) L st h (some x2)) : V X S res nL pc L (.int (b2i r) :: st) h (some (if r = true then x1 else x2)) := V.cast (F' := if r = true then some x1 else some x2) (fun e => by rw [← e]; split <;> rfl) (v_ifz_ne hB d ht k1 k2)
theorem b2i_and (x y : Bool) : b2i x &&& b2i y = b2i (x && y) := by cases x <;> cases y <;> decide
theorem v_zand (hB : pq_B X b nL own) {x y : Bool} (d : decode b pc = .ok (.iand, 1)) (k : V X S res nL (pc + 1) L (.int (b2i (x && y)) :: st) h F) : V X S res nL pc L (.int (b2i y) :: .int (b2i x) :: st) h F := v_iand hB d (by rw [b2i_and]; exact k)
theorem lg_lt (x y : Int64) : lg_cmp x y < 0 ↔ x < y := by
  unfold lg_cmp
  by_cases h1 : x > y
  · rw [if_pos h1]
    exact ⟨fun q => absurd q (by decide), fun q => absurd (Int64.lt_iff_toInt_lt.mp q) (by have := Int64.lt_iff_toInt_lt.mp h1; omega)⟩
  · rw [if_neg h1]
    by_cases h2 : x = y
    · rw [if_pos h2]
      exact ⟨fun q => absurd q (by decide), fun q => absurd (Int64.lt_iff_toInt_lt.mp q) (by rw [h2]; omega)⟩
    · rw [if_neg h2]
      refine ⟨fun _ => ?_, fun _ => by decide⟩
      have a1 : ¬ y.toInt < x.toInt := fun q => h1 (Int64.lt_iff_toInt_lt.mpr q)
      have a2 : ¬ x.toInt = y.toInt := fun q => h2 (Int64.toInt_inj.mp q)
      exact Int64.lt_iff_toInt_lt.mpr (by omega)
theorem lg_gt (x y : Int64) : 0 < lg_cmp x y ↔ y < x := by
  unfold lg_cmp
  by_cases h1 : x > y
  · rw [if_pos h1]
    exact ⟨fun _ => h1, fun _ => by decide⟩
  · rw [if_neg h1]
    by_cases h2 : x = y
    · rw [if_pos h2]
      exact ⟨fun q => absurd q (by decide), fun q => absurd q h1⟩
    · rw [if_neg h2]
      exact ⟨fun q => absurd q (by decide), fun q => absurd q h1⟩
theorem lg_eq (x y : Int64) : lg_cmp x y = 0 ↔ x = y := by
  unfold lg_cmp
  by_cases h1 : x > y
  · rw [if_pos h1]
    refine ⟨fun q => absurd q (by decide), fun q => absurd (Int64.lt_iff_toInt_lt.mp h1) (by rw [q]; omega)⟩
  · rw [if_neg h1]
    by_cases h2 : x = y
    · rw [if_pos h2]
      exact ⟨fun _ => h2, fun _ => rfl⟩
    · rw [if_neg h2]
      exact ⟨fun q => absurd q (by decide), fun q => absurd q h2⟩
theorem lg_ge (x y : Int64) : 0 ≤ lg_cmp x y ↔ y ≤ x := by
  have a := lg_lt x y
  rw [Int32.lt_iff_toInt_lt, Int64.lt_iff_toInt_lt] at a
  rw [Int32.le_iff_toInt_le, Int64.le_iff_toInt_le]
  have z : (0 : Int32).toInt = 0 := by decide
  omega
theorem lg_le (x y : Int64) : lg_cmp x y ≤ 0 ↔ x ≤ y := by
  have a := lg_gt x y
  rw [Int32.lt_iff_toInt_lt, Int64.lt_iff_toInt_lt] at a
  rw [Int32.le_iff_toInt_le, Int64.le_iff_toInt_le]
  have z : (0 : Int32).toInt = 0 := by decide
  omega
theorem v_lcmp_eq (hB : pq_B X b nL own) {a c : Int64} {off : Int} {tgt : Nat} {F1 F2 : Option α} (d : decode b pc = .ok (.lcmp, 1)) (d2 : decode b (pc + 1) = .ok (.ifCond .eq off, 3)) (ht : ((pc + 1 : Nat) : Int) + off = (tgt : Int)) (k1 : V X S res nL tgt L st h F1) (k2 : V X S res nL (pc + 4) L st h F2) : V X S res nL pc L (.long c :: .long a :: st) h (if a = c then F1 else F2) := by
  have k := v_if_eq (a := lg_cmp a c) hB d2 ht k1 k2
  refine V.cast (F' := if lg_cmp a c = 0 then F1 else F2) (fun e => ?_) (fun e ls H locs hl hP hS => W.lcmp hB.1 hB.2.1 d (k e ls H locs hl hP hS))
  rw [← e]
  simp only [lg_eq]
theorem v_lcmp_eqT (hB : pq_B X b nL own) {a c : Int64} {off : Int} {tgt : Nat} {x1 x2 : α} (d : decode b pc = .ok (.lcmp, 1)) (d2 : decode b (pc + 1) = .ok (.ifCond .eq off, 3)) (ht : ((pc + 1 : Nat) : Int) + off = (tgt : Int)) (k1 : V X S res nL tgt L st h (some x1)) (k2 : V X S res nL (pc + 4) L st h (some x2)) : V X S res nL pc L (.long c :: .long a :: st) h (some (if a = c then x1 else x2)) := V.cast (F' := if a = c then some x1 else some x2) (fun e => by rw [← e]; split <;> rfl) (v_lcmp_eq hB d d2 ht k1 k2)
theorem v_lcmp_ne (hB : pq_B X b nL own) {a c : Int64} {off : Int} {tgt : Nat} {F1 F2 : Option α} (d : decode b pc = .ok (.lcmp, 1)) (d2 : decode b (pc + 1) = .ok (.ifCond .ne off, 3)) (ht : ((pc + 1 : Nat) : Int) + off = (tgt : Int)) (k1 : V X S res nL tgt L st h F1) (k2 : V X S res nL (pc + 4) L st h F2) : V X S res nL pc L (.long c :: .long a :: st) h (if a = c then F2 else F1) := by
  have k := v_if_ne (a := lg_cmp a c) hB d2 ht k1 k2
  refine V.cast (F' := if lg_cmp a c = 0 then F2 else F1) (fun e => ?_) (fun e ls H locs hl hP hS => W.lcmp hB.1 hB.2.1 d (k e ls H locs hl hP hS))
  rw [← e]
  simp only [lg_eq]
theorem v_lcmp_neT (hB : pq_B X b nL own) {a c : Int64} {off : Int} {tgt : Nat} {x1 x2 : α} (d : decode b pc = .ok (.lcmp, 1)) (d2 : decode b (pc + 1) = .ok (.ifCond .ne off, 3)) (ht : ((pc + 1 : Nat) : Int) + off = (tgt : Int)) (k1 : V X S res nL tgt L st h (some x1)) (k2 : V X S res nL (pc + 4) L st h (some x2)) : V X S res nL pc L (.long c :: .long a :: st) h (some (if a = c then x2 else x1)) := V.cast (F' := if a = c then some x2 else some x1) (fun e => by rw [← e]; split <;> rfl) (v_lcmp_ne hB d d2 ht k1 k2)
theorem v_lcmp_lt (hB : pq_B X b nL own) {a c : Int64} {off : Int} {tgt : Nat} {F1 F2 : Option α} (d : decode b pc = .ok (.lcmp, 1)) (d2 : decode b (pc + 1) = .ok (.ifCond .lt off, 3)) (ht : ((pc + 1 : Nat) : Int) + off = (tgt : Int)) (k1 : V X S res nL tgt L st h F1) (k2 : V X S res nL (pc + 4) L st h F2) : V X S res nL pc L (.long c :: .long a :: st) h (if a < c then F1 else F2) := by
  have k := v_if_lt (a := lg_cmp a c) hB d2 ht k1 k2
  refine V.cast (F' := if lg_cmp a c < 0 then F1 else F2) (fun e => ?_) (fun e ls H locs hl hP hS => W.lcmp hB.1 hB.2.1 d (k e ls H locs hl hP hS))
  rw [← e]
  simp only [lg_lt]
theorem v_lcmp_ltT (hB : pq_B X b nL own) {a c : Int64} {off : Int} {tgt : Nat} {x1 x2 : α} (d : decode b pc = .ok (.lcmp, 1)) (d2 : decode b (pc + 1) = .ok (.ifCond .lt off, 3)) (ht : ((pc + 1 : Nat) : Int) + off = (tgt : Int)) (k1 : V X S res nL tgt L st h (some x1)) (k2 : V X S res nL (pc + 4) L st h (some x2)) : V X S res nL pc L (.long c :: .long a :: st) h (some (if a < c then x1 else x2)) := V.cast (F' := if a < c then some x1 else some x2) (fun e => by rw [← e]; split <;> rfl) (v_lcmp_lt hB d d2 ht k1 k2)
theorem v_lcmp_ge (hB : pq_B X b nL own) {a c : Int64} {off : Int} {tgt : Nat} {F1 F2 : Option α} (d : decode b pc = .ok (.lcmp, 1)) (d2 : decode b (pc + 1) = .ok (.ifCond .ge off, 3)) (ht : ((pc + 1 : Nat) : Int) + off = (tgt : Int)) (k1 : V X S res nL tgt L st h F1) (k2 : V X S res nL (pc + 4) L st h F2) : V X S res nL pc L (.long c :: .long a :: st) h (if c ≤ a then F1 else F2) := by
  have k := v_if_ge (a := lg_cmp a c) hB d2 ht k1 k2
  refine V.cast (F' := if 0 ≤ lg_cmp a c then F1 else F2) (fun e => ?_) (fun e ls H locs hl hP hS => W.lcmp hB.1 hB.2.1 d (k e ls H locs hl hP hS))
  rw [← e]
  simp only [lg_ge]
theorem v_lcmp_geT (hB : pq_B X b nL own) {a c : Int64} {off : Int} {tgt : Nat} {x1 x2 : α} (d : decode b pc = .ok (.lcmp, 1)) (d2 : decode b (pc + 1) = .ok (.ifCond .ge off, 3)) (ht : ((pc + 1 : Nat) : Int) + off = (tgt : Int)) (k1 : V X S res nL tgt L st h (some x1)) (k2 : V X S res nL (pc + 4) L st h (some x2)) : V X S res nL pc L (.long c :: .long a :: st) h (some (if c ≤ a then x1 else x2)) := V.cast (F' := if c ≤ a then some x1 else some x2) (fun e => by rw [← e]; split <;> rfl) (v_lcmp_ge hB d d2 ht k1 k2)
theorem v_lcmp_gt (hB : pq_B X b nL own) {a c : Int64} {off : Int} {tgt : Nat} {F1 F2 : Option α} (d : decode b pc = .ok (.lcmp, 1)) (d2 : decode b (pc + 1) = .ok (.ifCond .gt off, 3)) (ht : ((pc + 1 : Nat) : Int) + off = (tgt : Int)) (k1 : V X S res nL tgt L st h F1) (k2 : V X S res nL (pc + 4) L st h F2) : V X S res nL pc L (.long c :: .long a :: st) h (if c < a then F1 else F2) := by
  have k := v_if_gt (a := lg_cmp a c) hB d2 ht k1 k2
  refine V.cast (F' := if 0 < lg_cmp a c then F1 else F2) (fun e => ?_) (fun e ls H locs hl hP hS => W.lcmp hB.1 hB.2.1 d (k e ls H locs hl hP hS))
  rw [← e]
  simp only [lg_gt]
theorem v_lcmp_gtT (hB : pq_B X b nL own) {a c : Int64} {off : Int} {tgt : Nat} {x1 x2 : α} (d : decode b pc = .ok (.lcmp, 1)) (d2 : decode b (pc + 1) = .ok (.ifCond .gt off, 3)) (ht : ((pc + 1 : Nat) : Int) + off = (tgt : Int)) (k1 : V X S res nL tgt L st h (some x1)) (k2 : V X S res nL (pc + 4) L st h (some x2)) : V X S res nL pc L (.long c :: .long a :: st) h (some (if c < a then x1 else x2)) := V.cast (F' := if c < a then some x1 else some x2) (fun e => by rw [← e]; split <;> rfl) (v_lcmp_gt hB d d2 ht k1 k2)
theorem v_lcmp_le (hB : pq_B X b nL own) {a c : Int64} {off : Int} {tgt : Nat} {F1 F2 : Option α} (d : decode b pc = .ok (.lcmp, 1)) (d2 : decode b (pc + 1) = .ok (.ifCond .le off, 3)) (ht : ((pc + 1 : Nat) : Int) + off = (tgt : Int)) (k1 : V X S res nL tgt L st h F1) (k2 : V X S res nL (pc + 4) L st h F2) : V X S res nL pc L (.long c :: .long a :: st) h (if a ≤ c then F1 else F2) := by
  have k := v_if_le (a := lg_cmp a c) hB d2 ht k1 k2
  refine V.cast (F' := if lg_cmp a c ≤ 0 then F1 else F2) (fun e => ?_) (fun e ls H locs hl hP hS => W.lcmp hB.1 hB.2.1 d (k e ls H locs hl hP hS))
  rw [← e]
  simp only [lg_le]
theorem v_lcmp_leT (hB : pq_B X b nL own) {a c : Int64} {off : Int} {tgt : Nat} {x1 x2 : α} (d : decode b pc = .ok (.lcmp, 1)) (d2 : decode b (pc + 1) = .ok (.ifCond .le off, 3)) (ht : ((pc + 1 : Nat) : Int) + off = (tgt : Int)) (k1 : V X S res nL tgt L st h (some x1)) (k2 : V X S res nL (pc + 4) L st h (some x2)) : V X S res nL pc L (.long c :: .long a :: st) h (some (if a ≤ c then x1 else x2)) := V.cast (F' := if a ≤ c then some x1 else some x2) (fun e => by rw [← e]; split <;> rfl) (v_lcmp_le hB d d2 ht k1 k2)
/-- a field's link, and where it lies -/
def pq_F (S : pq_S) (own : String) (idx ci k : Nat) (ty : FieldType) : Prop := ∃ (C : String) (T : u_T) (N : Nat) (ty0 : Nat → FieldType), S.2.1.2.1[ci]? = some (C, T, N) ∧ k < N ∧ Cond.fieldLink own idx (T k).1 (T k).2.1 (T k).2.2.1 ∈ pq_G ∧ (∀ w ∈ u_ws C T N, w ∈ pq_G) ∧ (∀ k, k < N → parseFieldDescriptor (T k).2.2.1 = some (ty0 k)) ∧ (∀ a, a < N → ∀ b, b < N → a ≠ b → (T a).2.1 ≠ (T b).2.1) ∧ ty0 k = ty
def pq_fin (S : pq_S) (ci k : Nat) : Prop := ∃ (C : String) (T : u_T) (N : Nat), S.2.1.2.1[ci]? = some (C, T, N) ∧ (T k).2.2.2 = false
/-- a cell is an object, its k-th field an int, a long, a fixed cell, a cell that changes -/
def pq_o (S : pq_S) (p ci : Nat) (C : String) : Prop := p < S.1.1 ∧ (∃ fs : (Nat → Int32) → (Nat → Int64) → (Nat → Option Nat) → List Value, ∀ i j r, S.1.2.2 p i j r = .inr (ci, fs i j r)) ∧ ∃ (T : u_T) (N : Nat), S.2.1.2.1[ci]? = some (C, T, N)
def pq_cI (S : pq_S) (p ci k : Nat) : Prop := p < S.1.1 ∧ ∃ fs : (Nat → Int32) → (Nat → Int64) → (Nat → Option Nat) → List Value, (∀ i j r, S.1.2.2 p i j r = .inr (ci, fs i j r)) ∧ (∀ i j r, (fs i j r)[k]? = some (.int (i k))) ∧ ∀ i j r v, (fs i j r).set k (.int v) = fs (upd i k v) j r
def pq_cJ (S : pq_S) (p ci k : Nat) : Prop := p < S.1.1 ∧ ∃ fs : (Nat → Int32) → (Nat → Int64) → (Nat → Option Nat) → List Value, (∀ i j r, S.1.2.2 p i j r = .inr (ci, fs i j r)) ∧ (∀ i j r, (fs i j r)[k]? = some (.long (j k))) ∧ ∀ i j r v, (fs i j r).set k (.long v) = fs i (vp_updL j k v) r
def pq_cA (S : pq_S) (p ci k q : Nat) : Prop := p < S.1.1 ∧ ∃ fs : (Nat → Int32) → (Nat → Int64) → (Nat → Option Nat) → List Value, (∀ i j r, S.1.2.2 p i j r = .inr (ci, fs i j r)) ∧ ∀ i j r, (fs i j r)[k]? = some (.ref (S.1.2.1 q))
def pq_cR (S : pq_S) (p ci k : Nat) : Prop := p < S.1.1 ∧ ∃ fs : (Nat → Int32) → (Nat → Int64) → (Nat → Option Nat) → List Value, (∀ i j r, S.1.2.2 p i j r = .inr (ci, fs i j r)) ∧ (∀ i j r, (fs i j r)[k]? = some (va_rf ((r k).map S.1.2.1))) ∧ ∀ i j r v, (fs i j r).set k (va_rf (v.map S.1.2.1)) = fs i j (va_up r k v)
/-- arrays: of ints, of longs, of fixed cells, of cells that change -/
def pq_aI (S : pq_S) (p n : Nat) : Prop := p < S.1.1 ∧ ∃ (cA : ClassId) (t0 : Nat), (∀ i j r, S.1.2.2 p i j r = .inl (cA, n, .inl i)) ∧ S.2.1.2.2[t0]? = some (cA, .int)
def pq_aJ (S : pq_S) (p n : Nat) : Prop := p < S.1.1 ∧ ∃ (cA : ClassId) (t0 : Nat), (∀ i j r, S.1.2.2 p i j r = .inl (cA, n, .inr (.inl j))) ∧ S.2.1.2.2[t0]? = some (cA, .long)
def pq_aA (S : pq_S) (p n : Nat) (f : Nat → Nat) : Prop := p < S.1.1 ∧ ∃ (cA : ClassId) (t0 : Nat) (ty : FieldType), (∀ i j r, S.1.2.2 p i j r = .inl (cA, n, .inr (.inr (.inr (.inr (fun t => if t < n then some (S.1.2.1 (f t)) else none)))))) ∧ S.2.1.2.2[t0]? = some (cA, ty) ∧ ty.isReference = true
def pq_aR (S : pq_S) (p n : Nat) : Prop := p < S.1.1 ∧ ∃ (cA : ClassId) (t0 : Nat) (ty : FieldType), (∀ i j r, S.1.2.2 p i j r = .inl (cA, n, .inr (.inr (.inr (.inr (fun t => (r t).map S.1.2.1)))))) ∧ S.2.1.2.2[t0]? = some (cA, ty) ∧ ty.isReference = true
/-- the room of the method in hand -/
def pq_Rm (X : pq_X) (RF RL : Nat) : Prop := RF ≤ X.1.2.2.2.1.frames ∧ RL ≤ X.1.2.2.2.1.locals
theorem pq_R.rm {X : pq_X} {S : pq_S} {ret : Option FieldType} {rf rl : Nat} {o : Option Value} {h' : pq_H} (hR : pq_R X S ret rf rl o h') : pq_Rm X rf rl := ⟨by rw [hR.1]; exact Nat.le_refl _, by rw [hR.1]; exact Nat.le_refl _⟩
theorem pq_K.A {X : pq_X} {S : pq_S} (hK : pq_K X S) : pq_A S X.2.2.2.1 := ⟨hK.2.1, hK.2.2.2.2⟩
theorem pq_setI {p k : Nat} {v : Int32} {E : (Nat → Int32) → (Nat → Int64) → (Nat → Option Nat) → va_E} (hp : p < S.1.1) (he : ∀ i j r, S.1.2.2 p i j r = E i j r) : (pq_W S h).set p (S.1.2.1 p, E (upd (h.1 p) k v) (h.2.1 p) (h.2.2 p)) = pq_W S (wI h p k v) := pq_set hp (by rw [he, wI_self]; rfl) (fun q hq => wI_ne q hq)
theorem pq_setJ {p k : Nat} {v : Int64} {E : (Nat → Int32) → (Nat → Int64) → (Nat → Option Nat) → va_E} (hp : p < S.1.1) (he : ∀ i j r, S.1.2.2 p i j r = E i j r) : (pq_W S h).set p (S.1.2.1 p, E (h.1 p) (vp_updL (h.2.1 p) k v) (h.2.2 p)) = pq_W S (wJ h p k v) := pq_set hp (by rw [he, wJ_self]; rfl) (fun q hq => wJ_ne q hq)
theorem pq_setR {p k : Nat} {v : Option Nat} {E : (Nat → Int32) → (Nat → Int64) → (Nat → Option Nat) → va_E} (hp : p < S.1.1) (he : ∀ i j r, S.1.2.2 p i j r = E i j r) : (pq_W S h).set p (S.1.2.1 p, E (h.1 p) (h.2.1 p) (va_up (h.2.2 p) k v)) = pq_W S (wR h p k v) := pq_set hp (by rw [he, wR_self]; rfl) (fun q hq => wR_ne q hq)
theorem v_getI (hB : pq_B X b nL own) (hK : pq_K X S) {idx ci k p : Nat} {ty : FieldType} (fl : pq_F S own idx ci k ty) (hc : pq_cI S p ci k) (d : decode b pc = .ok (.getfield idx, 3)) (kk : V X S res nL (pc + 3) L (.int (rI h p k) :: st) h F) : V X S res nL pc L (.ref (S.1.2.1 p) :: st) h F := by
  obtain ⟨C, T, N, ty0, h1, h2, h3, h4, h5, h6, h7⟩ := fl
  obtain ⟨hp, fs, e1, e2, e3⟩ := hc
  exact fun e ls H locs hl hP hS => va_get hB.1 hB.2.1 hB.2.2.2.2 h4 hB.2.2.2.1 hK.1 hP p (pq_get hp (e1 _ _ _)) h1 k h2 (hB.2.2.2.2 _ h3) (fun _ z => z) (e2 _ _ _) d (kk e ls H locs hl hP hS)
theorem v_getJ (hB : pq_B X b nL own) (hK : pq_K X S) {idx ci k p : Nat} {ty : FieldType} (fl : pq_F S own idx ci k ty) (hc : pq_cJ S p ci k) (d : decode b pc = .ok (.getfield idx, 3)) (kk : V X S res nL (pc + 3) L (.long (rJ h p k) :: st) h F) : V X S res nL pc L (.ref (S.1.2.1 p) :: st) h F := by
  obtain ⟨C, T, N, ty0, h1, h2, h3, h4, h5, h6, h7⟩ := fl
  obtain ⟨hp, fs, e1, e2, e3⟩ := hc
  exact fun e ls H locs hl hP hS => va_get hB.1 hB.2.1 hB.2.2.2.2 h4 hB.2.2.2.1 hK.1 hP p (pq_get hp (e1 _ _ _)) h1 k h2 (hB.2.2.2.2 _ h3) (fun _ z => z) (e2 _ _ _) d (kk e ls H locs hl hP hS)
theorem v_getA (hB : pq_B X b nL own) (hK : pq_K X S) {idx ci k p q : Nat} {ty : FieldType} (fl : pq_F S own idx ci k ty) (hc : pq_cA S p ci k q) (d : decode b pc = .ok (.getfield idx, 3)) (kk : V X S res nL (pc + 3) L (.ref (S.1.2.1 q) :: st) h F) : V X S res nL pc L (.ref (S.1.2.1 p) :: st) h F := by
  obtain ⟨C, T, N, ty0, h1, h2, h3, h4, h5, h6, h7⟩ := fl
  obtain ⟨hp, fs, e1, e2⟩ := hc
  exact fun e ls H locs hl hP hS => va_get hB.1 hB.2.1 hB.2.2.2.2 h4 hB.2.2.2.1 hK.1 hP p (pq_get hp (e1 _ _ _)) h1 k h2 (hB.2.2.2.2 _ h3) (fun _ z => z) (e2 _ _ _) d (kk e ls H locs hl hP hS)
theorem v_getR (hB : pq_B X b nL own) (hK : pq_K X S) {idx ci k p : Nat} (q : Nat) {ty : FieldType} (fl : pq_F S own idx ci k ty) (hc : pq_cR S p ci k) (d : decode b pc = .ok (.getfield idx, 3)) (kk : V X S res nL (pc + 3) L (.ref (S.1.2.1 q) :: st) h F) : V X S res nL pc L (.ref (S.1.2.1 p) :: st) h (gd (rR h p k == some q) F) := by
  obtain ⟨C, T, N, ty0, h1, h2, h3, h4, h5, h6, h7⟩ := fl
  obtain ⟨hp, fs, e1, e2, e3⟩ := hc
  intro e ls H locs hl hP hS
  obtain ⟨c1, c2⟩ := gd_some e
  have c3 : h.2.2 p k = some q := by simpa [rR] using c1
  exact va_get hB.1 hB.2.1 hB.2.2.2.2 h4 hB.2.2.2.1 hK.1 hP p (pq_get hp (e1 _ _ _)) h1 k h2 (hB.2.2.2.2 _ h3) (fun _ z => z) ((e2 _ _ _).trans (by rw [c3]; rfl)) d (kk c2 ls H locs hl hP hS)
theorem v_putI (hB : pq_B X b nL own) (hK : pq_K X S) {idx ci k p : Nat} {v : Int32} (fl : pq_F S own idx ci k .int) (hf : pq_fin S ci k) (hc : pq_cI S p ci k) (d : decode b pc = .ok (.putfield idx, 3)) (kk : V X S res nL (pc + 3) L st (wI h p k v) F) : V X S res nL pc L (.int v :: .ref (S.1.2.1 p) :: st) h F := by
  obtain ⟨C, T, N, ty0, h1, h2, h3, h4, h5, h6, h7⟩ := fl
  obtain ⟨C', T', N', g1, g2⟩ := hf
  cases g1.symm.trans h1
  obtain ⟨hp, fs, e1, e2, e3⟩ := hc
  intro e ls H locs hl hP hS
  refine va_put hB.1 hB.2.1 hB.2.2.2.2 h4 ty0 h5 h6 hB.2.2.2.1 hK.1 hP (hK.2.1 h) hS p (pq_get hp (e1 _ _ _)) h1 k h2 (hB.2.2.2.2 _ h3) (fun _ z => z) g2 (ty := .int) (v := .int v) (by rw [h5 k h2, h7]) rfl rfl (List.getElem?_eq_some_iff.mp (e2 _ _ _)).1 d (fun H1 locs1 hP1 hD1 hS1 => kk e ls H1 locs1 hl ?_ hS1)
  rw [e3] at hP1
  rw [pq_setI hp e1] at hP1
  exact hP1
theorem v_putZ (hB : pq_B X b nL own) (hK : pq_K X S) {idx ci k p : Nat} {v : Bool} (fl : pq_F S own idx ci k .boolean) (hf : pq_fin S ci k) (hc : pq_cI S p ci k) (d : decode b pc = .ok (.putfield idx, 3)) (kk : V X S res nL (pc + 3) L st (wI h p k (b2i v)) F) : V X S res nL pc L (.int (b2i v) :: .ref (S.1.2.1 p) :: st) h F := by
  obtain ⟨C, T, N, ty0, h1, h2, h3, h4, h5, h6, h7⟩ := fl
  obtain ⟨C', T', N', g1, g2⟩ := hf
  cases g1.symm.trans h1
  obtain ⟨hp, fs, e1, e2, e3⟩ := hc
  intro e ls H locs hl hP hS
  refine va_put hB.1 hB.2.1 hB.2.2.2.2 h4 ty0 h5 h6 hB.2.2.2.1 hK.1 hP (hK.2.1 h) hS p (pq_get hp (e1 _ _ _)) h1 k h2 (hB.2.2.2.2 _ h3) (fun _ z => z) g2 (ty := .boolean) (v := .int (b2i v)) (by rw [h5 k h2, h7]) (by cases v <;> rfl) (by cases v <;> rfl) (List.getElem?_eq_some_iff.mp (e2 _ _ _)).1 d (fun H1 locs1 hP1 hD1 hS1 => kk e ls H1 locs1 hl ?_ hS1)
  rw [e3] at hP1
  rw [pq_setI hp e1] at hP1
  exact hP1
theorem v_putJ (hB : pq_B X b nL own) (hK : pq_K X S) {idx ci k p : Nat} {v : Int64} (fl : pq_F S own idx ci k .long) (hf : pq_fin S ci k) (hc : pq_cJ S p ci k) (d : decode b pc = .ok (.putfield idx, 3)) (kk : V X S res nL (pc + 3) L st (wJ h p k v) F) : V X S res nL pc L (.long v :: .ref (S.1.2.1 p) :: st) h F := by
  obtain ⟨C, T, N, ty0, h1, h2, h3, h4, h5, h6, h7⟩ := fl
  obtain ⟨C', T', N', g1, g2⟩ := hf
  cases g1.symm.trans h1
  obtain ⟨hp, fs, e1, e2, e3⟩ := hc
  intro e ls H locs hl hP hS
  refine va_put hB.1 hB.2.1 hB.2.2.2.2 h4 ty0 h5 h6 hB.2.2.2.1 hK.1 hP (hK.2.1 h) hS p (pq_get hp (e1 _ _ _)) h1 k h2 (hB.2.2.2.2 _ h3) (fun _ z => z) g2 (ty := .long) (v := .long v) (by rw [h5 k h2, h7]) rfl rfl (List.getElem?_eq_some_iff.mp (e2 _ _ _)).1 d (fun H1 locs1 hP1 hD1 hS1 => kk e ls H1 locs1 hl ?_ hS1)
  rw [e3] at hP1
  rw [pq_setJ hp e1] at hP1
  exact hP1
theorem v_putR (hB : pq_B X b nL own) (hK : pq_K X S) {idx ci k p q : Nat} {C0 : String} (fl : pq_F S own idx ci k (.object C0)) (hf : pq_fin S ci k) (hc : pq_cR S p ci k) (d : decode b pc = .ok (.putfield idx, 3)) (kk : V X S res nL (pc + 3) L st (wR h p k (some q)) F) : V X S res nL pc L (.ref (S.1.2.1 q) :: .ref (S.1.2.1 p) :: st) h F := by
  obtain ⟨C, T, N, ty0, h1, h2, h3, h4, h5, h6, h7⟩ := fl
  obtain ⟨C', T', N', g1, g2⟩ := hf
  cases g1.symm.trans h1
  obtain ⟨hp, fs, e1, e2, e3⟩ := hc
  intro e ls H locs hl hP hS
  refine va_put hB.1 hB.2.1 hB.2.2.2.2 h4 ty0 h5 h6 hB.2.2.2.1 hK.1 hP (hK.2.1 h) hS p (pq_get hp (e1 _ _ _)) h1 k h2 (hB.2.2.2.2 _ h3) (fun _ z => z) g2 (ty := .object C0) (v := .ref (S.1.2.1 q)) (by rw [h5 k h2, h7]) rfl rfl (List.getElem?_eq_some_iff.mp (e2 _ _ _)).1 d (fun H1 locs1 hP1 hD1 hS1 => kk e ls H1 locs1 hl ?_ hS1)
  have e4 := e3 (h.1 p) (h.2.1 p) (h.2.2 p) (some q)
  rw [show va_rf ((some q).map S.1.2.1) = .ref (S.1.2.1 q) from rfl] at e4
  rw [e4] at hP1
  rw [pq_setR hp e1] at hP1
  exact hP1
theorem v_iald (hB : pq_B X b nL own) (hK : pq_K X S) {p n : Nat} {i : Int32} (ha : pq_aI S p n) (d : decode b pc = .ok (.iaload, 1)) (kk : V X S res nL (pc + 1) L (.int (rI h p i.toNatClampNeg) :: st) h F) : V X S res nL pc L (.int i :: .ref (S.1.2.1 p) :: st) h (gd (inb i n) F) := by
  obtain ⟨hp, cA, t0, e1, e2⟩ := ha
  intro e ls H locs hl hP hS
  obtain ⟨c1, c2⟩ := gd_some e
  exact va_iald hB.1 hB.2.1 hK.1 hP p t0 (pq_get hp (e1 _ _ _)) e2 (inb_in c1) d (kk c2 ls H locs hl hP hS)
theorem v_lald (hB : pq_B X b nL own) (hK : pq_K X S) {p n : Nat} {i : Int32} (ha : pq_aJ S p n) (d : decode b pc = .ok (.laload, 1)) (kk : V X S res nL (pc + 1) L (.long (rJ h p i.toNatClampNeg) :: st) h F) : V X S res nL pc L (.int i :: .ref (S.1.2.1 p) :: st) h (gd (inb i n) F) := by
  obtain ⟨hp, cA, t0, e1, e2⟩ := ha
  intro e ls H locs hl hP hS
  obtain ⟨c1, c2⟩ := gd_some e
  exact va_lald hB.1 hB.2.1 hK.1 hP p t0 (pq_get hp (e1 _ _ _)) e2 (inb_in c1) d (kk c2 ls H locs hl hP hS)
theorem v_iast (hB : pq_B X b nL own) (hK : pq_K X S) {p n : Nat} {i v : Int32} (ha : pq_aI S p n) (d : decode b pc = .ok (.iastore, 1)) (kk : V X S res nL (pc + 1) L st (wI h p i.toNatClampNeg v) F) : V X S res nL pc L (.int v :: .int i :: .ref (S.1.2.1 p) :: st) h (gd (inb i n) F) := by
  obtain ⟨hp, cA, t0, e1, e2⟩ := ha
  intro e ls H locs hl hP hS
  obtain ⟨c1, c2⟩ := gd_some e
  refine va_iast hB.1 hB.2.1 hK.1 hP (hK.2.1 h) hS p t0 (pq_get hp (e1 _ _ _)) e2 (inb_in c1) d (fun H1 locs1 hP1 hD1 hS1 => kk c2 ls H1 locs1 hl ?_ hS1)
  rw [pq_setI hp e1] at hP1
  exact hP1
theorem v_last (hB : pq_B X b nL own) (hK : pq_K X S) {p n : Nat} {i : Int32} {v : Int64} (ha : pq_aJ S p n) (d : decode b pc = .ok (.lastore, 1)) (kk : V X S res nL (pc + 1) L st (wJ h p i.toNatClampNeg v) F) : V X S res nL pc L (.long v :: .int i :: .ref (S.1.2.1 p) :: st) h (gd (inb i n) F) := by
  obtain ⟨hp, cA, t0, e1, e2⟩ := ha
  intro e ls H locs hl hP hS
  obtain ⟨c1, c2⟩ := gd_some e
  refine va_last hB.1 hB.2.1 hK.1 hP (hK.2.1 h) hS p t0 (pq_get hp (e1 _ _ _)) e2 (inb_in c1) d (fun H1 locs1 hP1 hD1 hS1 => kk c2 ls H1 locs1 hl ?_ hS1)
  rw [pq_setJ hp e1] at hP1
  exact hP1
theorem pq_aald {D : va_G} {cl : List vw_C} {ws : va_W} {tys : List (ClassId × FieldType)} {p : Program} {l : Launch} {e : Env} {R : Room} {s : State} {m : MethodId} {args : Array Value} {below : List Frame} {meth : Method} {c : Code} {H : Heap} {locs : List Loc} {cells slots : Nat} {Q : State → Prop} {cc : ByteArray} {pc a : Nat} {ls : Array Slot} {rest : List Value} (hexec : p.tables.exec = Jvm.exec) (hb : c.code = cc) (hK : va_K D cl tys s) (hP : va_P D cl ws H) (q0 t0 : Nat) {cA : ClassId} {ty : FieldType} {n : Nat} {f : Nat → Option Nat} (ha : ws[q0]? = some (a, .inl (cA, n, .inr (.inr (.inr (.inr f)))))) (ht : tys[t0]? = some (cA, ty)) (hr : ty.isReference = true) {i : Int32} (hin : vp_in i n) (hdg : decode cc pc = .ok (.aaload, 1))
    (kk : W p l e R s m args below meth c H locs cells slots Q (F0 m (pc + 1) ls (va_rf (f i.toNatClampNeg) :: rest))) : W p l e R s m args below meth c H locs cells slots Q (F0 m pc ls (.int i :: .ref a :: rest)) := by
  have hlt : i.toNatClampNeg < n := Nat.not_le.mp fun q => hin (Or.inr q)
  exact W.aald (v := va_rf (f i.toNatClampNeg)) (ty := ty) hexec hb (hP q0 _ ha) ((hK.2 t0 _ ht).1 n (fun j => va_rf (f j))) hr (fun q => by cases q) (by show ¬ (i < 0 ∨ (arrV _ _ _).slots.size ≤ _); rw [arrV_size]; exact hin) (by show (arrV _ _ _).slots[_]? = _; rw [arrV_read _ _ hlt]) rfl rfl hdg kk
theorem v_aald (hB : pq_B X b nL own) (hK : pq_K X S) {p n : Nat} {f : Nat → Nat} {i : Int32} (ha : pq_aA S p n f) (d : decode b pc = .ok (.aaload, 1)) (kk : i.toNatClampNeg < n → V X S res nL (pc + 1) L (.ref (S.1.2.1 (f i.toNatClampNeg)) :: st) h F) : V X S res nL pc L (.int i :: .ref (S.1.2.1 p) :: st) h (gd (inb i n) F) := by
  obtain ⟨hp, cA, t0, ty, e1, e2, e3⟩ := ha
  intro e ls H locs hl hP hS
  obtain ⟨c1, c2⟩ := gd_some e
  have hlt := inb_lt c1
  refine pq_aald hB.1 hB.2.1 hK.1 hP p t0 (pq_get hp (e1 _ _ _)) e2 e3 (inb_in c1) d ?_
  rw [if_pos hlt]
  exact kk hlt c2 ls H locs hl hP hS
def bd2 {β γ : Type} (f : Option (β × pq_H)) (G : β → pq_H → Option γ) : Option γ := f.bind fun x => G x.1 x.2
def hl {β : Type} (h : pq_H) (F : pq_H → β) : β := F h
theorem v_hl {G : pq_H → Option α} (kk : ∀ h1, V X S res nL pc L st h1 (G h1)) : V X S res nL pc L st h (hl h G) := kk h
def rowG {β : Type} (lo hi : Nat) (o : Option Nat) (k : Nat → Option β) : Option β := match o with | some q => (if lo ≤ q ∧ q < hi then k q else none) | none => none
theorem v_aaldR (hB : pq_B X b nL own) (hK : pq_K X S) {p n : Nat} (lo hi : Nat) {i : Int32} {G : Nat → Option α} (ha : pq_aR S p n) (d : decode b pc = .ok (.aaload, 1)) (kk : ∀ q, lo ≤ q → q < hi → V X S res nL (pc + 1) L (.ref (S.1.2.1 q) :: st) h (G q)) : V X S res nL pc L (.int i :: .ref (S.1.2.1 p) :: st) h (gd (inb i n) (rowG lo hi (rR h p i.toNatClampNeg) G)) := by
  obtain ⟨hp, cA, t0, ty, e1, e2, e3⟩ := ha
  intro e ls H locs hl hP hS
  obtain ⟨c1, c2⟩ := gd_some e
  refine pq_aald hB.1 hB.2.1 hK.1 hP p t0 (pq_get hp (e1 _ _ _)) e2 e3 (inb_in c1) d ?_
  unfold rR rowG at c2
  cases hq : h.2.2 p i.toNatClampNeg with
  | none => rw [hq] at c2; cases c2
  | some q =>
    rw [hq] at c2
    dsimp only at c2
    by_cases hc : lo ≤ q ∧ q < hi
    · rw [if_pos hc] at c2
      exact kk q hc.1 hc.2 c2 ls H locs hl hP hS
    · rw [if_neg hc] at c2
      cases c2
/-- links of calls -/
def pq_LB (y : MethodName) (b : ByteArray) (n : Nat) (ret : Option FieldType) (k : Nat) : Prop := Cond.initialized y.cls ∈ pq_G ∧ Cond.code y b n ret ∈ pq_G ∧ y.cls ≠ "java/lang/invoke/MethodHandle" ∧ y.cls ≠ "java/lang/invoke/VarHandle" ∧ (parseMethodDescriptor y.desc).map (fun d => d.parameters.length) = some k
/-- a step over a call: it answers o and leaves h' -/
def pq_St (X : pq_X) (S : pq_S) (nL pc : Nat) (L : List (Nat × Value)) (st0 : List Value) (h : pq_H) (o : List Value) (h' : pq_H) (st : List Value) : Prop := ∀ {α : Type} {res : α} {F : Option α}, V X S res nL (pc + 3) L (o ++ st) h' F → V X S res nL pc L st0 h F
theorem pq_call {l0 : Nat} {p : Program} {l : Launch} {e : Env} {R : Room} {s : State} {m : MethodId} {args : Array Value} {below : List Frame} {meth : Method} {c : Code} {H : Heap} {locs : List Loc} {Q : State → Prop} {st0 rest : List Value} {ls : Array Slot} {o : Option Value} {h' : pq_H} {A : Nat → Prop} {a : Array Value} {H0 : Heap} (hr : va_Run p l e R s m args below meth c H locs 0 0 0 0 (F0 m l0 ls st0) rest (pq_Q o h' S A a) A) (hS : va_S A H0 H locs)
    (kk : ∀ (H1 : Heap) (locs1 : List Loc), va_P S.2.1.1 S.2.1.2.1 (pq_W S h') H1 → va_S A H0 H1 locs1 → W p l e R s m args below meth c H1 locs1 0 0 Q (F0 m (l0 + 3) ls (o.toList ++ rest))) : W p l e R s m args below meth c H locs 0 0 Q (F0 m l0 ls st0) := by
  intro T hT X
  obtain ⟨v, st₀, t, T', L, h0, X', hL, e1, e2, ⟨⟨hv, hw⟩, hz, hk⟩, st⟩ := hr T hT X
  cases hv
  rw [h0] at hz hk
  obtain ⟨t2, a1, b1⟩ := kk T'.heap (locs ++ L) (by rw [e1]; exact hw)
    ⟨Nat.le_trans hS.1 (by rw [e1]; exact hz), fun q h1 h2 => by rw [e1, hk q (Nat.lt_of_lt_of_le h1 hS.1) h2]; exact hS.2.1 q h1 h2, fun q hq => by
      rcases List.mem_append.mp hq with h | h
      · exact hS.2.2 q h
      · exact hL q h⟩ T' rfl X'
  exact ⟨t2, st t2 a1, b1⟩
theorem pq_blind {av : List Value} {A : Nat → Prop} {S : pq_S} {h : pq_H} (hA : pq_A S A) : FrameBlind (va_Pc av (pq_Wd S A h)) := fun a U g mk q => ⟨q.1, q.2.1, va_K.moved (u := U) (U := U.calling g mk a) (Vm.Alike.refl U.vm) q.2.2.1, hA.2 U (U.calling g mk a) U.heap U.heap (State.WarmedH.refl U) (Nat.le_refl _) (fun _ _ _ => rfl) q.2.2.2⟩
theorem pq_wd {H : Heap} {locs : List Loc} {U : State} (hK : pq_K X S) (hP : va_P S.2.1.1 S.2.1.2.1 (pq_W S h) H) (hS : va_S X.2.2.2.1 X.2.2.2.2 H locs) (hU : U.heap = H) (hW : X.1.2.2.2.2.WarmedH U.vm) : pq_Wd S X.2.2.2.1 h U := by
  refine ⟨by rw [hU]; exact hP, va_K.moved hW.alike hK.1, ?_⟩
  have hS1 := hS
  rw [hK.2.2.1] at hS1
  exact hK.2.2.2.2 X.1.2.2.2.2 U _ _ hW (by rw [hU]; exact hS1.1) (fun q h1 h2 => by rw [hU]; exact hS1.2.1 q h1 h2) hK.2.2.2.1
theorem pq_cb {y : MethodName} {bb : ByteArray} {n : Nat} {ret : Option FieldType} {k idx rf rl RF RL : Nat} (hB : pq_B X b nL own) (hRm : pq_Rm X RF RL) (lk : pq_LB y bb n ret k) (hl : Cond.methodLink own idx y ∈ pq_G) (hr : rf + 1 ≤ RF) (hr2 : 8 + (n + 11) + rl ≤ RL) : CallB X.1.2.2.2.1 X.1.2.2.2.2 X.2.1.2.1 own idx y bb n ret (Cond.code y bb n ret :: pq_G) ({ frames := rf, cells := 0, slots := 0, locals := rl } : Room) 0 0 k := by
  obtain ⟨l1, l2, l3, l4, l5⟩ := lk
  exact callB_of (Ts := pq_G) (ws' := pq_G) k hB.2.2.2.2 (pq_goodIn l2 (fun w hw => hw)) rfl rfl rfl (hB.2.2.2.2 _ l1) (hB.2.2.2.2 _ hl) ⟨l3, l4, l5⟩ ⟨Nat.le_trans hr hRm.1, Nat.le_trans hr2 hRm.2⟩
theorem pq_cn {y : MethodName} {bb : ByteArray} {n : Nat} {ret : Option FieldType} {k idx rf rl RF RL : Nat} {host : String} (hB : pq_B X b nL own) (hRm : pq_Rm X RF RL) (lk : pq_LB y bb n ret k) (hl : (Cond.methodLinkNest own idx y host).before X.2.1.2.1 X.1.2.2.2.2 = true) (hr : rf + 1 ≤ RF) (hr2 : 8 + (n + 11) + rl ≤ RL) : va_CN X.1.2.2.2.1 X.1.2.2.2.2 X.2.1.2.1 own idx y host bb n ret (Cond.code y bb n ret :: pq_G) ({ frames := rf, cells := 0, slots := 0, locals := rl } : Room) 0 0 k := by
  obtain ⟨l1, l2, l3, l4, l5⟩ := lk
  refine ⟨⟨rfl, rfl, Nat.le_trans hr hRm.1, Nat.le_trans hr2 hRm.2, pay_in hB.2.2.2.2 (pq_goodIn l2 (fun w hw => hw)), List.mem_cons_self⟩, hB.2.2.2.2 _ l2, hB.2.2.2.2 _ l1, ⟨l3, l4⟩, fun sig hs => ?_, hl⟩
  rw [hs] at l5
  exact (Option.some.inj l5).symm
theorem v_callV {y : MethodName} {bb : ByteArray} {n : Nat} {ret : Option FieldType} {k idx rf rl RF RL p ci : Nat} {o : Option Value} {h' : pq_H} {st0 : List Value} (hB : pq_B X b nL own) (hK : pq_K X S) (hRm : pq_Rm X RF RL) (As : List Value) (st : List Value) (ob : pq_o S p ci y.cls) (lk : pq_LB y bb n ret k) (lv : Cond.methodLink own idx y ∈ pq_G ∧ Cond.instanceMethod y ∈ pq_G ∧ Cond.selects y.cls y y ∈ pq_G) (hM : pq_M S X.2.2.2.1 X.1.2.1 y bb n ret rf rl (.ref (S.1.2.1 p) :: As) h o h') (d : decode b pc = .ok (.invokevirtual idx, 3)) (hn : As.length = k) (hst : st0 = As.reverse ++ .ref (S.1.2.1 p) :: st) (hW : (st.map fun v => v.category).sum ≤ 8) (hr : rf + 1 ≤ RF) (hr2 : 8 + (n + 11) + rl ≤ RL) : pq_St X S nL pc L st0 h o.toList h' st := by
  intro α res F kk e ls H locs hl hP hS
  obtain ⟨hp, ⟨fs, e1⟩, T, N, hc⟩ := ob
  refine pq_call (S := S) (A := X.2.2.2.1) (o := o) (h' := h') (a := (Value.ref (S.1.2.1 p) :: As).toArray) (rest := st) ?_ hS (fun H1 locs1 hP1 hS1 => kk e ls H1 locs1 hl hP1 hS1)
  exact va_runV (As := As) (rest := st) (C := y.cls) ⟨hB.1, hB.2.1, hB.2.2.1, hB.2.2.2.1, hB.2.2.2.2⟩ hM ⟨pq_cb hB hRm lk lv.1 hr hr2, hB.2.2.2.2 _ lv.2.1, hB.2.2.2.2 _ lv.2.2⟩ ⟨pq_blind hK.A, va_recv hK.1 hP (q0 := p) hc (pq_get hp (e1 _ _ _)), fun U hU hW2 => ⟨rfl, pq_wd hK hP hS hU hW2⟩⟩ rfl hn hl.1 hst (lv_room hW) d ⟨Nat.zero_le _, Nat.zero_le _⟩
theorem v_callVN {y : MethodName} {bb : ByteArray} {n : Nat} {ret : Option FieldType} {k idx rf rl RF RL p ci : Nat} {o : Option Value} {h' : pq_H} {st0 : List Value} {host : String} (hB : pq_B X b nL own) (hK : pq_K X S) (hRm : pq_Rm X RF RL) (As : List Value) (st : List Value) (ob : pq_o S p ci y.cls) (lk : pq_LB y bb n ret k) (hN : ∀ A U H, S.2.2 A U H → va_Nw (Cond.methodLinkNest own idx y host) U) (lv : Cond.instanceMethod y ∈ pq_G ∧ Cond.selects y.cls y y ∈ pq_G) (hM : pq_M S X.2.2.2.1 X.1.2.1 y bb n ret rf rl (.ref (S.1.2.1 p) :: As) h o h') (d : decode b pc = .ok (.invokevirtual idx, 3)) (hn : As.length = k) (hst : st0 = As.reverse ++ .ref (S.1.2.1 p) :: st) (hW : (st.map fun v => v.category).sum ≤ 8) (hr : rf + 1 ≤ RF) (hr2 : 8 + (n + 11) + rl ≤ RL) : pq_St X S nL pc L st0 h o.toList h' st := by
  intro α res F kk e ls H locs hl hP hS
  obtain ⟨hp, ⟨fs, e1⟩, T, N, hc⟩ := ob
  refine pq_call (S := S) (A := X.2.2.2.1) (o := o) (h' := h') (a := (Value.ref (S.1.2.1 p) :: As).toArray) (rest := st) ?_ hS (fun H1 locs1 hP1 hS1 => kk e ls H1 locs1 hl hP1 hS1)
  exact va_runVN (As := As) (rest := st) (C := y.cls) ⟨hB.1, hB.2.1, hB.2.2.1, hB.2.2.2.1, hB.2.2.2.2⟩ hM ⟨pq_cn hB hRm lk (va_Nw.use rfl (hN _ _ _ hK.2.2.2.1)) hr hr2, hB.2.2.2.2 _ lv.1, hB.2.2.2.2 _ lv.2⟩ ⟨pq_blind hK.A, va_recv hK.1 hP (q0 := p) hc (pq_get hp (e1 _ _ _)), fun U hU hW2 => ⟨rfl, pq_wd hK hP hS hU hW2⟩⟩ rfl hn hl.1 hst (lv_room hW) d ⟨Nat.zero_le _, Nat.zero_le _⟩
theorem v_callS {y : MethodName} {bb : ByteArray} {n : Nat} {ret : Option FieldType} {k idx rf rl RF RL : Nat} {o : Option Value} {h' : pq_H} {st0 : List Value} (hB : pq_B X b nL own) (hK : pq_K X S) (hRm : pq_Rm X RF RL) (As : List Value) (st : List Value) (lk : pq_LB y bb n ret k) (lv : Cond.methodLink own idx y ∈ pq_G ∧ Cond.static y ∈ pq_G) (hM : pq_M S X.2.2.2.1 X.1.2.1 y bb n ret rf rl As h o h') (d : decode b pc = .ok (.invokestatic idx, 3)) (hn : As.length = k) (hst : st0 = As.reverse ++ st) (hW : (st.map fun v => v.category).sum ≤ 8) (hr : rf + 1 ≤ RF) (hr2 : 8 + (n + 11) + rl ≤ RL) : pq_St X S nL pc L st0 h o.toList h' st := by
  intro α res F kk e ls H locs hl hP hS
  refine pq_call (S := S) (A := X.2.2.2.1) (o := o) (h' := h') (a := As.toArray) (rest := st) ?_ hS (fun H1 locs1 hP1 hS1 => kk e ls H1 locs1 hl hP1 hS1)
  exact va_runS (As := As) (rest := st) ⟨hB.1, hB.2.1, hB.2.2.1, hB.2.2.2.1, hB.2.2.2.2⟩ hM ⟨pq_cb hB hRm lk lv.1 hr hr2, hB.2.2.2.2 _ lv.2⟩ ⟨pq_blind hK.A, fun U hU hW2 => ⟨rfl, pq_wd hK hP hS hU hW2⟩⟩ rfl hn hl.1 hst (lv_room hW) d ⟨Nat.zero_le _, Nat.zero_le _⟩
theorem v_callSN {y : MethodName} {bb : ByteArray} {n : Nat} {ret : Option FieldType} {k idx rf rl RF RL : Nat} {o : Option Value} {h' : pq_H} {st0 : List Value} {host : String} (hB : pq_B X b nL own) (hK : pq_K X S) (hRm : pq_Rm X RF RL) (As : List Value) (st : List Value) (lk : pq_LB y bb n ret k) (hN : ∀ A U H, S.2.2 A U H → va_Nw (Cond.methodLinkNest own idx y host) U) (lv : Cond.static y ∈ pq_G) (hM : pq_M S X.2.2.2.1 X.1.2.1 y bb n ret rf rl As h o h') (d : decode b pc = .ok (.invokestatic idx, 3)) (hn : As.length = k) (hst : st0 = As.reverse ++ st) (hW : (st.map fun v => v.category).sum ≤ 8) (hr : rf + 1 ≤ RF) (hr2 : 8 + (n + 11) + rl ≤ RL) : pq_St X S nL pc L st0 h o.toList h' st := by
  intro α res F kk e ls H locs hl hP hS
  refine pq_call (S := S) (A := X.2.2.2.1) (o := o) (h' := h') (a := As.toArray) (rest := st) ?_ hS (fun H1 locs1 hP1 hS1 => kk e ls H1 locs1 hl hP1 hS1)
  exact va_runSN (As := As) (rest := st) ⟨hB.1, hB.2.1, hB.2.2.1, hB.2.2.2.1, hB.2.2.2.2⟩ hM ⟨pq_cn hB hRm lk (va_Nw.use rfl (hN _ _ _ hK.2.2.2.1)) hr hr2, hB.2.2.2.2 _ lv, trivial⟩ ⟨pq_blind hK.A, fun U hU hW2 => ⟨rfl, pq_wd hK hP hS hU hW2⟩⟩ rfl hn hl.1 hst (lv_room hW) d ⟨Nat.zero_le _, Nat.zero_le _⟩
/-- the pure answer over a call -/
theorem v_bR {β : Type} {f : Option β} {G : β → Option α} {vf : β → Value} {st0 : List Value} (cs : ∀ r, f = some r → pq_St X S nL pc L st0 h [vf r] h st) (kk : ∀ r, V X S res nL (pc + 3) L (vf r :: st) h (G r)) : V X S res nL pc L st0 h (f.bind G) := by
  cases hf : f with
  | none => exact fun e => by cases e
  | some r => exact cs r hf (kk r)
theorem v_bW {β : Type} {f : Option (β × pq_H)} {G : β → pq_H → Option α} {vf : β → Value} {st0 : List Value} (cs : ∀ r h', f = some (r, h') → pq_St X S nL pc L st0 h [vf r] h' st) (kk : ∀ r h', V X S res nL (pc + 3) L (vf r :: st) h' (G r h')) : V X S res nL pc L st0 h (bd2 f G) := by
  unfold bd2
  cases hf : f with
  | none => exact fun e => by cases e
  | some r => exact cs r.1 r.2 hf (kk r.1 r.2)
theorem v_bV {f : Option pq_H} {G : pq_H → Option α} {st0 : List Value} (cs : ∀ h', f = some h' → pq_St X S nL pc L st0 h [] h' st) (kk : ∀ h', V X S res nL (pc + 3) L st h' (G h')) : V X S res nL pc L st0 h (f.bind G) := by
  cases hf : f with
  | none => exact fun e => by cases e
  | some r => exact cs r hf (kk r)
/-- ends -/
theorem pq_end {ret : Option FieldType} {rf rl : Nat} {o : Option Value} {H : Heap} {locs : List Loc} (hK : pq_K X S) (hR : pq_R X S ret rf rl o h) (hP : va_P S.2.1.1 S.2.1.2.1 (pq_W S h) H) (hS : va_S X.2.2.2.1 X.2.2.2.2 H locs) : ∀ t : State, t.heap = H → X.1.2.2.2.2.WarmedH t.vm → pq_Q o h S X.2.2.2.1 X.2.1.2.1 X.1.2.2.2.2 (.returned o) t := fun t ht hW => ⟨⟨rfl, by rw [ht]; exact hP⟩, by
  have hS1 := hS
  rw [hK.2.2.1] at hS1
  exact hS1.F ht⟩
theorem v_iret {x : Int32} {rf rl : Nat} (hB : pq_B X b nL own) (hK : pq_K X S) (hR : pq_R X S (some .int) rf rl (some (.int x)) h) (d : decode b pc = .ok (.ireturn, 1)) : V X S res nL pc L [.int x] h F := fun e ls H locs hl hP hS => by
  have hq := pq_end hK hR hP hS
  have hR2 := hR
  obtain ⟨-, h2, h3, h4⟩ := hR2
  rw [h4]
  exact W.iret hB.1 hB.2.1 h2 hq hS.2.2 d h3
theorem v_zret {x : Bool} {rf rl : Nat} (hB : pq_B X b nL own) (hK : pq_K X S) (hR : pq_R X S (some .boolean) rf rl (some (.int (b2i x))) h) (d : decode b pc = .ok (.ireturn, 1)) : V X S res nL pc L [.int (b2i x)] h F := fun e ls H locs hl hP hS => by
  have hq := pq_end hK hR hP hS
  have hR2 := hR
  obtain ⟨-, h2, h3, h4⟩ := hR2
  rw [h4]
  exact W.zret hB.1 hB.2.1 h2 (by cases x <;> rfl) hq hS.2.2 d h3
theorem v_lret {x : Int64} {rf rl : Nat} (hB : pq_B X b nL own) (hK : pq_K X S) (hR : pq_R X S (some .long) rf rl (some (.long x)) h) (d : decode b pc = .ok (.lreturn, 1)) : V X S res nL pc L [.long x] h F := fun e ls H locs hl hP hS => by
  have hq := pq_end hK hR hP hS
  have hR2 := hR
  obtain ⟨-, h2, h3, h4⟩ := hR2
  rw [h4]
  exact W.lret hB.1 hB.2.1 h2 hq hS.2.2 d h3
theorem v_vret {rf rl : Nat} (hB : pq_B X b nL own) (hK : pq_K X S) (hR : pq_R X S none rf rl none h) (d : decode b pc = .ok (.return_, 1)) : V X S res nL pc L [] h F := fun e ls H locs hl hP hS => by
  have hq := pq_end hK hR hP hS
  have hR2 := hR
  obtain ⟨-, h2, h3, h4⟩ := hR2
  rw [h4]
  exact W.vret hB.1 hB.2.1 h2 hq hS.2.2 d h3
theorem v_aret {x : Nat} {C0 : String} {rf rl : Nat} (hB : pq_B X b nL own) (hK : pq_K X S) (hR : pq_R X S (some (.object C0)) rf rl (some (.ref x)) h) (d : decode b pc = .ok (.areturn, 1)) : V X S res nL pc L [.ref x] h F := fun e ls H locs hl hP hS => by
  have hq := pq_end hK hR hP hS
  have hR2 := hR
  obtain ⟨-, h2, h3, h4⟩ := hR2
  rw [h4]
  exact W.aret hB.1 hB.2.1 h2 (Or.inl ⟨_, rfl⟩) (Or.inr ⟨_, rfl⟩) hq hS.2.2 d h3
theorem v_retRi {r x : Int32} {rf rl : Nat} (hB : pq_B X b nL own) (hK : pq_K X S) (hR : pq_R X S (some .int) rf rl (some (.int r)) h) (d : decode b pc = .ok (.ireturn, 1)) : V X S r nL pc L [.int x] h (some x) := fun e => by
  cases e
  exact v_iret (F := some x) hB hK hR d rfl
theorem v_retRz {r x : Bool} {rf rl : Nat} (hB : pq_B X b nL own) (hK : pq_K X S) (hR : pq_R X S (some .boolean) rf rl (some (.int (b2i r))) h) (d : decode b pc = .ok (.ireturn, 1)) : V X S r nL pc L [.int (b2i x)] h (some x) := fun e => by
  cases e
  exact v_zret (F := some x) hB hK hR d rfl
theorem v_retRj {r x : Int64} {rf rl : Nat} (hB : pq_B X b nL own) (hK : pq_K X S) (hR : pq_R X S (some .long) rf rl (some (.long r)) h) (d : decode b pc = .ok (.lreturn, 1)) : V X S r nL pc L [.long x] h (some x) := fun e => by
  cases e
  exact v_lret (F := some x) hB hK hR d rfl
theorem v_retWi {r x : Int32} {h' : pq_H} {rf rl : Nat} (hB : pq_B X b nL own) (hK : pq_K X S) (hR : pq_R X S (some .int) rf rl (some (.int r)) h') (d : decode b pc = .ok (.ireturn, 1)) : V X S (r, h') nL pc L [.int x] h (some (x, h)) := fun e => by
  cases e
  exact v_iret (F := some x) hB hK hR d rfl
theorem v_retWz {r x : Bool} {h' : pq_H} {rf rl : Nat} (hB : pq_B X b nL own) (hK : pq_K X S) (hR : pq_R X S (some .boolean) rf rl (some (.int (b2i r))) h') (d : decode b pc = .ok (.ireturn, 1)) : V X S (r, h') nL pc L [.int (b2i x)] h (some (x, h)) := fun e => by
  cases e
  exact v_zret (F := some x) hB hK hR d rfl
theorem v_retWj {r x : Int64} {h' : pq_H} {rf rl : Nat} (hB : pq_B X b nL own) (hK : pq_K X S) (hR : pq_R X S (some .long) rf rl (some (.long r)) h') (d : decode b pc = .ok (.lreturn, 1)) : V X S (r, h') nL pc L [.long x] h (some (x, h)) := fun e => by
  cases e
  exact v_lret (F := some x) hB hK hR d rfl
theorem v_retWv {h' : pq_H} {rf rl : Nat} (hB : pq_B X b nL own) (hK : pq_K X S) (hR : pq_R X S none rf rl none h') (d : decode b pc = .ok (.return_, 1)) : V X S h' nL pc L [] h (some h) := fun e => by
  cases e
  exact v_vret (F := some h) hB hK hR d rfl
theorem v_retWa {h' : pq_H} {x : Nat} {C0 : String} {rf rl : Nat} (hB : pq_B X b nL own) (hK : pq_K X S) (hR : pq_R X S (some (.object C0)) rf rl (some (.ref x)) h') (d : decode b pc = .ok (.areturn, 1)) : V X S h' nL pc L [.ref x] h (some h) := fun e => by
  cases e
  exact v_aret (F := some h) hB hK hR d rfl
theorem v_bT {st0 : List Value} {v : Value} (cs : pq_St X S nL pc L st0 h [v] h st) (kk : V X S res nL (pc + 3) L (v :: st) h F) : V X S res nL pc L st0 h F := cs kk
theorem v_bRi {f : Option Int32} {G : Int32 → Option α} {st0 : List Value} (cs : ∀ r, f = some r → pq_St X S nL pc L st0 h [.int r] h st) (kk : ∀ r, V X S res nL (pc + 3) L (.int r :: st) h (G r)) : V X S res nL pc L st0 h (f.bind G) := v_bR (vf := fun r => .int r) cs kk
theorem v_bRz {f : Option Bool} {G : Bool → Option α} {st0 : List Value} (cs : ∀ r, f = some r → pq_St X S nL pc L st0 h [.int (b2i r)] h st) (kk : ∀ r, V X S res nL (pc + 3) L (.int (b2i r) :: st) h (G r)) : V X S res nL pc L st0 h (f.bind G) := v_bR (vf := fun r => .int (b2i r)) cs kk
theorem v_bRj {f : Option Int64} {G : Int64 → Option α} {st0 : List Value} (cs : ∀ r, f = some r → pq_St X S nL pc L st0 h [.long r] h st) (kk : ∀ r, V X S res nL (pc + 3) L (.long r :: st) h (G r)) : V X S res nL pc L st0 h (f.bind G) := v_bR (vf := fun r => .long r) cs kk
theorem v_bWi {f : Option (Int32 × pq_H)} {G : Int32 → pq_H → Option α} {st0 : List Value} (cs : ∀ r h', f = some (r, h') → pq_St X S nL pc L st0 h [.int r] h' st) (kk : ∀ r h', V X S res nL (pc + 3) L (.int r :: st) h' (G r h')) : V X S res nL pc L st0 h (bd2 f G) := v_bW (vf := fun r => .int r) cs kk
theorem v_bWz {f : Option (Bool × pq_H)} {G : Bool → pq_H → Option α} {st0 : List Value} (cs : ∀ r h', f = some (r, h') → pq_St X S nL pc L st0 h [.int (b2i r)] h' st) (kk : ∀ r h', V X S res nL (pc + 3) L (.int (b2i r) :: st) h' (G r h')) : V X S res nL pc L st0 h (bd2 f G) := v_bW (vf := fun r => .int (b2i r)) cs kk
theorem v_bWj {f : Option (Int64 × pq_H)} {G : Int64 → pq_H → Option α} {st0 : List Value} (cs : ∀ r h', f = some (r, h') → pq_St X S nL pc L st0 h [.long r] h' st) (kk : ∀ r h', V X S res nL (pc + 3) L (.long r :: st) h' (G r h')) : V X S res nL pc L st0 h (bd2 f G) := v_bW (vf := fun r => .long r) cs kk
theorem v_bVr {f : Option pq_H} {G : pq_H → Option α} {st0 : List Value} {a : Nat} (cs : ∀ h', f = some h' → pq_St X S nL pc L st0 h [.ref a] h' st) (kk : ∀ h', V X S res nL (pc + 3) L (.ref a :: st) h' (G h')) : V X S res nL pc L st0 h (f.bind G) := by
  cases hf : f with
  | none => exact fun e => by cases e
  | some r => exact cs r hf (kk r)
/-- a switch, a case at a time -/
theorem v_tcase {dflt lo hi : Int} {offs : Array Int} {len : Nat} {x : Int32} {off : Int} {tgt : Nat} {F1 F2 : Option α} (hB : pq_B X b nL own) (c : Int32) (d : decode b pc = .ok (.tableswitch dflt lo hi offs, len)) (h1 : ¬ c.toInt < lo) (h2 : ¬ hi < c.toInt) (ho : offs[(c.toInt - lo).toNat]? = some off) (ht : (pc : Int) + off = (tgt : Int)) (k1 : V X S res nL tgt L st h F1) (k2 : ¬ x = c → V X S res nL pc L (.int x :: st) h F2) : V X S res nL pc L (.int x :: st) h (if x = c then F1 else F2) := by
  by_cases hc : x = c
  · rw [if_pos hc]
    subst hc
    exact fun e ls H locs hl hP hS => lv_tableIn hB.1 hB.2.1 d h1 h2 ho ht (k1 e ls H locs hl hP hS)
  · rw [if_neg hc]
    exact k2 hc
theorem v_tdef {dflt lo hi : Int} {offs : Array Int} {len : Nat} {x : Int32} {tgt : Nat} (hB : pq_B X b nL own) (d : decode b pc = .ok (.tableswitch dflt lo hi offs, len)) (hx : x.toInt < lo ∨ hi < x.toInt) (ht : (pc : Int) + dflt = (tgt : Int)) (k : V X S res nL tgt L st h F) : V X S res nL pc L (.int x :: st) h F := fun e ls H locs hl hP hS => lv_tableOut hB.1 hB.2.1 d hx ht (k e ls H locs hl hP hS)
theorem lp_ind {σ : Type} {z : σ} {f : σ → σ} (P : σ → Prop) (hz : P z) (hs : ∀ x, P x → P (f x)) : ∀ n, P (lp z f n)
  | 0 => hz
  | n + 1 => hs _ (lp_ind P hz hs n)
theorem v_tcaseT {dflt lo hi : Int} {offs : Array Int} {len : Nat} {x : Int32} {off : Int} {tgt : Nat} {x1 x2 : α} (hB : pq_B X b nL own) (c : Int32) (d : decode b pc = .ok (.tableswitch dflt lo hi offs, len)) (h1 : ¬ c.toInt < lo) (h2 : ¬ hi < c.toInt) (ho : offs[(c.toInt - lo).toNat]? = some off) (ht : (pc : Int) + off = (tgt : Int)) (k1 : V X S res nL tgt L st h (some x1)) (k2 : ¬ x = c → V X S res nL pc L (.int x :: st) h (some x2)) : V X S res nL pc L (.int x :: st) h (some (if x = c then x1 else x2)) := V.cast (F' := if x = c then some x1 else some x2) (fun e => by rw [← e]; split <;> rfl) (v_tcase hB c d h1 h2 ho ht k1 k2)
theorem v_idivG (hB : pq_B X b nL own) {a c : Int32} (d : decode b pc = .ok (.idiv, 1)) (k : V X S res nL (pc + 1) L (.int (a / c) :: st) h F) : V X S res nL pc L (.int c :: .int a :: st) h (gd (c != 0) F) := by
  by_cases hc : c = 0
  · subst hc; exact V.none _ _ _ _
  · rw [show (c != 0) = true by simpa using hc]; exact v_idiv hB d hc k
theorem v_iremG (hB : pq_B X b nL own) {a c : Int32} (d : decode b pc = .ok (.irem, 1)) (k : V X S res nL (pc + 1) L (.int (a - a / c * c) :: st) h F) : V X S res nL pc L (.int c :: .int a :: st) h (gd (c != 0) F) := by
  by_cases hc : c = 0
  · subst hc; exact V.none _ _ _ _
  · rw [show (c != 0) = true by simpa using hc]; exact v_irem hB d hc k
theorem v_ldivG (hB : pq_B X b nL own) {a c : Int64} (d : decode b pc = .ok (.ldiv, 1)) (k : V X S res nL (pc + 1) L (.long (a / c) :: st) h F) : V X S res nL pc L (.long c :: .long a :: st) h (gd (c != 0) F) := by
  by_cases hc : c = 0
  · subst hc; exact V.none _ _ _ _
  · rw [show (c != 0) = true by simpa using hc]; exact v_ldiv hB d hc k
theorem v_lremG (hB : pq_B X b nL own) {a c : Int64} (d : decode b pc = .ok (.lrem, 1)) (k : V X S res nL (pc + 1) L (.long (a - a / c * c) :: st) h F) : V X S res nL pc L (.long c :: .long a :: st) h (gd (c != 0) F) := by
  by_cases hc : c = 0
  · subst hc; exact V.none _ _ _ _
  · rw [show (c != 0) = true by simpa using hc]; exact v_lrem hB d hc k
theorem v_iushr (hB : pq_B X b nL own) {a c : Int32} (d : decode b pc = .ok (.iushr, 1)) (k : V X S res nL (pc + 1) L (.int ((a.toUInt32 >>> (c.toUInt32 &&& Int32.toUInt32 31)).toInt32) :: st) h F) : V X S res nL pc L (.int c :: .int a :: st) h F := fun e ls H locs hl hP hS => lv_iushr hB.1 hB.2.1 d rfl (k e ls H locs hl hP hS)
/-- Math, Integer: short ways -/
theorem v_mmin {idx RF RL : Nat} {x y : Int32} (hB : pq_B X b nL own) (hRm : pq_Rm X RF RL) (lk : Cond.methodLink own idx Lib.Math.min.name ∈ pq_G ∧ Cond.static Lib.Math.min.name ∈ pq_G ∧ Cond.initialized "java/lang/Math" ∈ pq_G ∧ Cond.code Lib.Math.min.name Lib.Math.min.code 2 (some .int) ∈ pq_G) (hr : 1 ≤ RF) (hr2 : (st.map fun v => v.category).sum + 13 ≤ RL) (d : decode b pc = .ok (.invokestatic idx, 3)) (kk : V X S res nL (pc + 3) L (.int (if y < x then y else x) :: st) h F) : V X S res nL pc L (.int y :: .int x :: st) h F := fun e ls H locs hl hP hS => va_mmin hB.1 hB.2.1 (hB.2.2.1.trans hl.1.symm) hB.2.2.2.1 (hB.2.2.2.2 _ lk.1) (hB.2.2.2.2 _ lk.2.1) (hB.2.2.2.2 _ lk.2.2.1) (hB.2.2.2.2 _ lk.2.2.2) (Nat.le_trans hr hRm.1) (Nat.le_trans hr2 hRm.2) (Nat.zero_le _) (Nat.zero_le _) d (kk e ls H locs hl hP hS)
theorem v_mmax {idx RF RL : Nat} {x y : Int32} (hB : pq_B X b nL own) (hRm : pq_Rm X RF RL) (lk : Cond.methodLink own idx Lib.Math.max.name ∈ pq_G ∧ Cond.static Lib.Math.max.name ∈ pq_G ∧ Cond.initialized "java/lang/Math" ∈ pq_G ∧ Cond.code Lib.Math.max.name Lib.Math.max.code 2 (some .int) ∈ pq_G) (hr : 1 ≤ RF) (hr2 : (st.map fun v => v.category).sum + 13 ≤ RL) (d : decode b pc = .ok (.invokestatic idx, 3)) (kk : V X S res nL (pc + 3) L (.int (if x < y then y else x) :: st) h F) : V X S res nL pc L (.int y :: .int x :: st) h F := fun e ls H locs hl hP hS => va_mmax hB.1 hB.2.1 (hB.2.2.1.trans hl.1.symm) hB.2.2.2.1 (hB.2.2.2.2 _ lk.1) (hB.2.2.2.2 _ lk.2.1) (hB.2.2.2.2 _ lk.2.2.1) (hB.2.2.2.2 _ lk.2.2.2) (Nat.le_trans hr hRm.1) (Nat.le_trans hr2 hRm.2) (Nat.zero_le _) (Nat.zero_le _) d (kk e ls H locs hl hP hS)
theorem v_mabs {idx RF RL : Nat} {x : Int32} (hB : pq_B X b nL own) (hRm : pq_Rm X RF RL) (lk : Cond.methodLink own idx Lib.Math.abs.name ∈ pq_G ∧ Cond.static Lib.Math.abs.name ∈ pq_G ∧ Cond.initialized "java/lang/Math" ∈ pq_G ∧ Cond.code Lib.Math.abs.name Lib.Math.abs.code 1 (some .int) ∈ pq_G) (hr : 1 ≤ RF) (hr2 : (st.map fun v => v.category).sum + 13 ≤ RL) (d : decode b pc = .ok (.invokestatic idx, 3)) (kk : V X S res nL (pc + 3) L (.int (if 0 ≤ x then x else 0 - x) :: st) h F) : V X S res nL pc L (.int x :: st) h F := fun e ls H locs hl hP hS => va_mabs hB.1 hB.2.1 (hB.2.2.1.trans hl.1.symm) hB.2.2.2.1 (hB.2.2.2.2 _ lk.1) (hB.2.2.2.2 _ lk.2.1) (hB.2.2.2.2 _ lk.2.2.1) (hB.2.2.2.2 _ lk.2.2.2) (Nat.le_trans hr hRm.1) (Nat.le_trans hr2 hRm.2) (Nat.zero_le _) (Nat.zero_le _) d (kk e ls H locs hl hP hS)
theorem v_mabsl {idx RF RL : Nat} {x : Int64} (hB : pq_B X b nL own) (hRm : pq_Rm X RF RL) (lk : Cond.methodLink own idx Lib.MathLoose.abs_long.x ∈ pq_G ∧ Cond.static Lib.MathLoose.abs_long.x ∈ pq_G ∧ Cond.initialized "java/lang/Math" ∈ pq_G ∧ Cond.code Lib.MathLoose.abs_long.x Lib.MathLoose.abs_long.code 2 (some .long) ∈ pq_G) (hr : 1 ≤ RF) (hr2 : (st.map fun v => v.category).sum + 13 ≤ RL) (d : decode b pc = .ok (.invokestatic idx, 3)) (kk : V X S res nL (pc + 3) L (.long (if 0 < x then x else -x) :: st) h F) : V X S res nL pc L (.long x :: st) h F := fun e ls H locs hl hP hS => va_mabs_long hB.1 hB.2.1 (hB.2.2.1.trans hl.1.symm) hB.2.2.2.1 (hB.2.2.2.2 _ lk.1) (hB.2.2.2.2 _ lk.2.1) (hB.2.2.2.2 _ lk.2.2.1) (hB.2.2.2.2 _ lk.2.2.2) (Nat.le_trans hr hRm.1) (Nat.le_trans hr2 hRm.2) (Nat.zero_le _) (Nat.zero_le _) d (kk e ls H locs hl hP hS)
end PQ
end
section
def RX0 : String := "FormsAboveNought$ActReader"
def RX1 : String := "FormsAboveNought$Form"
def RX2 : String := "FormsAboveNought$FormReader"
def RX3 : String := "FormsAboveNought$Letters"
def RX4 : String := "FormsAboveNought$Lists"
def RX5 : String := "FormsAboveNought$Maker"
def RX6 : String := "FormsAboveNought$Shelf"
def RX7 : String := "FormsAboveNought$Speller"
def RX8 : String := "FormsAboveNought$UndoLog"
def RX9 : String := "FormsAboveNought$Work"
def RX10 : String := "FormsAboveNought"
def RX11 : String := "FormsAboveNoughtModel"
def RJ6 : String := "java/lang/Integer"
def RJ9 : String := "java/lang/Math"
def RJ0 : String := "java/lang/String"
def RJ1 : String := "java/lang/StringLatin1"
def RJ2 : String := "java/lang/StringUTF16"
def RJ3 : String := "jdk/internal/util/Preconditions"
def RL : String := "FormsAboveNoughtLaw"
def TX0 : u_T := fun k => match k with
  | 0 => ("FormsAboveNought$ActReader", "word", "[I", true)
  | 1 => ("FormsAboveNought$ActReader", "place", "[I", true)
  | 2 => ("FormsAboveNought$ActReader", "first", "[I", true)
  | 3 => ("FormsAboveNought$ActReader", "second", "[I", true)
  | 4 => ("FormsAboveNought$ActReader", "size", "I", false)
  | 5 => ("FormsAboveNought$ActReader", "letters", "LFormsAboveNought$Letters;", false)
  | _ => ("FormsAboveNought$ActReader", "now", "I", false)
def tyX0 : Nat → FieldType := fun k => match k with
  | 0 => .array .int
  | 1 => .array .int
  | 2 => .array .int
  | 3 => .array .int
  | 4 => .int
  | 5 => .object "FormsAboveNought$Letters"
  | _ => .int
set_option maxRecDepth 8000 in
theorem nmX0 : ∀ a, a < 7 → ∀ b, b < 7 → a ≠ b → (TX0 a).2.1 ≠ (TX0 b).2.1 := by decide +kernel
set_option maxRecDepth 8000 in
theorem tyX0_ok : ∀ k, k < 7 → parseFieldDescriptor (TX0 k).2.2.1 = some (tyX0 k) := by decide +kernel
set_option maxRecDepth 8000 in
theorem uw_X0 : ∀ w ∈ u_ws RX0 TX0 7, w ∈ pq_G := by
  show ∀ w ∈ [u_lay RX0 TX0 0, u_lay RX0 TX0 1, u_lay RX0 TX0 2, u_lay RX0 TX0 3, u_lay RX0 TX0 4, u_lay RX0 TX0 5, u_lay RX0 TX0 6], w ∈ pq_G
  exact List.forall_mem_cons.mpr ⟨pq_t1 164 rfl rfl, List.forall_mem_cons.mpr ⟨pq_t1 166 rfl rfl, List.forall_mem_cons.mpr ⟨pq_t1 168 rfl rfl, List.forall_mem_cons.mpr ⟨pq_t1 170 rfl rfl, List.forall_mem_cons.mpr ⟨pq_t1 172 rfl rfl, List.forall_mem_cons.mpr ⟨pq_t1 174 rfl rfl, List.forall_mem_cons.mpr ⟨pq_t1 176 rfl rfl, fun _ z => absurd z List.not_mem_nil⟩⟩⟩⟩⟩⟩⟩
def TX1 : u_T := fun k => match k with
  | 0 => ("FormsAboveNought$Form", "told", "[I", true)
  | 1 => ("FormsAboveNought$Form", "kind", "I", false)
  | 2 => ("FormsAboveNought$Form", "figure", "I", false)
  | _ => ("FormsAboveNought$Form", "degree", "I", false)
def tyX1 : Nat → FieldType := fun k => match k with
  | 0 => .array .int
  | 1 => .int
  | 2 => .int
  | _ => .int
set_option maxRecDepth 8000 in
theorem nmX1 : ∀ a, a < 4 → ∀ b, b < 4 → a ≠ b → (TX1 a).2.1 ≠ (TX1 b).2.1 := by decide +kernel
set_option maxRecDepth 8000 in
theorem tyX1_ok : ∀ k, k < 4 → parseFieldDescriptor (TX1 k).2.2.1 = some (tyX1 k) := by decide +kernel
set_option maxRecDepth 8000 in
theorem uw_X1 : ∀ w ∈ u_ws RX1 TX1 4, w ∈ pq_G := by
  show ∀ w ∈ [u_lay RX1 TX1 0, u_lay RX1 TX1 1, u_lay RX1 TX1 2, u_lay RX1 TX1 3], w ∈ pq_G
  exact List.forall_mem_cons.mpr ⟨pq_t1 74 rfl rfl, List.forall_mem_cons.mpr ⟨pq_t1 76 rfl rfl, List.forall_mem_cons.mpr ⟨pq_t1 78 rfl rfl, List.forall_mem_cons.mpr ⟨pq_t1 80 rfl rfl, fun _ z => absurd z List.not_mem_nil⟩⟩⟩⟩
def TX2 : u_T := fun k => match k with
  | 0 => ("FormsAboveNought$FormReader", "power", "[I", true)
  | 1 => ("FormsAboveNought$FormReader", "letters", "LFormsAboveNought$Letters;", false)
  | 2 => ("FormsAboveNought$FormReader", "place", "I", false)
  | 3 => ("FormsAboveNought$FormReader", "degree", "I", false)
  | _ => ("FormsAboveNought$FormReader", "firstDegree", "I", false)
def tyX2 : Nat → FieldType := fun k => match k with
  | 0 => .array .int
  | 1 => .object "FormsAboveNought$Letters"
  | 2 => .int
  | 3 => .int
  | _ => .int
set_option maxRecDepth 8000 in
theorem nmX2 : ∀ a, a < 5 → ∀ b, b < 5 → a ≠ b → (TX2 a).2.1 ≠ (TX2 b).2.1 := by decide +kernel
set_option maxRecDepth 8000 in
theorem tyX2_ok : ∀ k, k < 5 → parseFieldDescriptor (TX2 k).2.2.1 = some (tyX2 k) := by decide +kernel
set_option maxRecDepth 8000 in
theorem uw_X2 : ∀ w ∈ u_ws RX2 TX2 5, w ∈ pq_G := by
  show ∀ w ∈ [u_lay RX2 TX2 0, u_lay RX2 TX2 1, u_lay RX2 TX2 2, u_lay RX2 TX2 3, u_lay RX2 TX2 4], w ∈ pq_G
  exact List.forall_mem_cons.mpr ⟨pq_t1 134 rfl rfl, List.forall_mem_cons.mpr ⟨pq_t1 136 rfl rfl, List.forall_mem_cons.mpr ⟨pq_t1 138 rfl rfl, List.forall_mem_cons.mpr ⟨pq_t1 140 rfl rfl, List.forall_mem_cons.mpr ⟨pq_t1 142 rfl rfl, fun _ z => absurd z List.not_mem_nil⟩⟩⟩⟩⟩
def TX3 : u_T := fun k => match k with
  | 0 => ("FormsAboveNought$Letters", "row", "[I", true)
  | _ => ("FormsAboveNought$Letters", "size", "I", false)
def tyX3 : Nat → FieldType := fun k => match k with
  | 0 => .array .int
  | _ => .int
set_option maxRecDepth 8000 in
theorem nmX3 : ∀ a, a < 2 → ∀ b, b < 2 → a ≠ b → (TX3 a).2.1 ≠ (TX3 b).2.1 := by decide +kernel
set_option maxRecDepth 8000 in
theorem tyX3_ok : ∀ k, k < 2 → parseFieldDescriptor (TX3 k).2.2.1 = some (tyX3 k) := by decide +kernel
set_option maxRecDepth 8000 in
theorem uw_X3 : ∀ w ∈ u_ws RX3 TX3 2, w ∈ pq_G := by
  show ∀ w ∈ [u_lay RX3 TX3 0, u_lay RX3 TX3 1], w ∈ pq_G
  exact List.forall_mem_cons.mpr ⟨pq_t1 118 rfl rfl, List.forall_mem_cons.mpr ⟨pq_t1 120 rfl rfl, fun _ z => absurd z List.not_mem_nil⟩⟩
def TX4 : u_T := fun k => match k with
  | 0 => ("FormsAboveNought$Lists", "row", "[[I", true)
  | _ => ("FormsAboveNought$Lists", "size", "[I", true)
def tyX4 : Nat → FieldType := fun k => match k with
  | 0 => .array (.array .int)
  | _ => .array .int
set_option maxRecDepth 8000 in
theorem nmX4 : ∀ a, a < 2 → ∀ b, b < 2 → a ≠ b → (TX4 a).2.1 ≠ (TX4 b).2.1 := by decide +kernel
set_option maxRecDepth 8000 in
theorem tyX4_ok : ∀ k, k < 2 → parseFieldDescriptor (TX4 k).2.2.1 = some (tyX4 k) := by decide +kernel
set_option maxRecDepth 8000 in
theorem uw_X4 : ∀ w ∈ u_ws RX4 TX4 2, w ∈ pq_G := by
  show ∀ w ∈ [u_lay RX4 TX4 0, u_lay RX4 TX4 1], w ∈ pq_G
  exact List.forall_mem_cons.mpr ⟨pq_t2 16 rfl rfl, List.forall_mem_cons.mpr ⟨pq_t2 18 rfl rfl, fun _ z => absurd z List.not_mem_nil⟩⟩
def TX5 : u_T := fun k => match k with
  | 0 => ("FormsAboveNought$Maker", "cell", "[[J", true)
  | 1 => ("FormsAboveNought$Maker", "leads", "[I", true)
  | 2 => ("FormsAboveNought$Maker", "rows", "I", false)
  | _ => ("FormsAboveNought$Maker", "columns", "I", false)
def tyX5 : Nat → FieldType := fun k => match k with
  | 0 => .array (.array .long)
  | 1 => .array .int
  | 2 => .int
  | _ => .int
set_option maxRecDepth 8000 in
theorem nmX5 : ∀ a, a < 4 → ∀ b, b < 4 → a ≠ b → (TX5 a).2.1 ≠ (TX5 b).2.1 := by decide +kernel
set_option maxRecDepth 8000 in
theorem tyX5_ok : ∀ k, k < 4 → parseFieldDescriptor (TX5 k).2.2.1 = some (tyX5 k) := by decide +kernel
set_option maxRecDepth 8000 in
theorem uw_X5 : ∀ w ∈ u_ws RX5 TX5 4, w ∈ pq_G := by
  show ∀ w ∈ [u_lay RX5 TX5 0, u_lay RX5 TX5 1, u_lay RX5 TX5 2, u_lay RX5 TX5 3], w ∈ pq_G
  exact List.forall_mem_cons.mpr ⟨pq_t1 209 rfl rfl, List.forall_mem_cons.mpr ⟨pq_t1 211 rfl rfl, List.forall_mem_cons.mpr ⟨pq_t1 213 rfl rfl, List.forall_mem_cons.mpr ⟨pq_t1 215 rfl rfl, fun _ z => absurd z List.not_mem_nil⟩⟩⟩⟩
def TX6 : u_T := fun k => match k with
  | 0 => ("FormsAboveNought$Shelf", "forms", "[LFormsAboveNought$Form;", true)
  | 1 => ("FormsAboveNought$Shelf", "kept", "[LFormsAboveNought$Form;", true)
  | 2 => ("FormsAboveNought$Shelf", "work", "LFormsAboveNought$Work;", true)
  | 3 => ("FormsAboveNought$Shelf", "size", "I", false)
  | _ => ("FormsAboveNought$Shelf", "keptSize", "I", false)
def tyX6 : Nat → FieldType := fun k => match k with
  | 0 => .array (.object "FormsAboveNought$Form")
  | 1 => .array (.object "FormsAboveNought$Form")
  | 2 => .object "FormsAboveNought$Work"
  | 3 => .int
  | _ => .int
set_option maxRecDepth 8000 in
theorem nmX6 : ∀ a, a < 5 → ∀ b, b < 5 → a ≠ b → (TX6 a).2.1 ≠ (TX6 b).2.1 := by decide +kernel
set_option maxRecDepth 8000 in
theorem tyX6_ok : ∀ k, k < 5 → parseFieldDescriptor (TX6 k).2.2.1 = some (tyX6 k) := by decide +kernel
set_option maxRecDepth 8000 in
theorem uw_X6 : ∀ w ∈ u_ws RX6 TX6 5, w ∈ pq_G := by
  show ∀ w ∈ [u_lay RX6 TX6 0, u_lay RX6 TX6 1, u_lay RX6 TX6 2, u_lay RX6 TX6 3, u_lay RX6 TX6 4], w ∈ pq_G
  exact List.forall_mem_cons.mpr ⟨pq_t1 96 rfl rfl, List.forall_mem_cons.mpr ⟨pq_t1 98 rfl rfl, List.forall_mem_cons.mpr ⟨pq_t1 100 rfl rfl, List.forall_mem_cons.mpr ⟨pq_t1 102 rfl rfl, List.forall_mem_cons.mpr ⟨pq_t1 104 rfl rfl, fun _ z => absurd z List.not_mem_nil⟩⟩⟩⟩⟩
def TX7 : u_T := fun k => match k with
  | 0 => ("FormsAboveNought$Speller", "length", "I", false)
  | 1 => ("FormsAboveNought$Speller", "found", "I", false)
  | _ => ("FormsAboveNought$Speller", "wanted", "I", false)
def tyX7 : Nat → FieldType := fun k => match k with
  | 0 => .int
  | 1 => .int
  | _ => .int
set_option maxRecDepth 8000 in
theorem nmX7 : ∀ a, a < 3 → ∀ b, b < 3 → a ≠ b → (TX7 a).2.1 ≠ (TX7 b).2.1 := by decide +kernel
set_option maxRecDepth 8000 in
theorem tyX7_ok : ∀ k, k < 3 → parseFieldDescriptor (TX7 k).2.2.1 = some (tyX7 k) := by decide +kernel
set_option maxRecDepth 8000 in
theorem uw_X7 : ∀ w ∈ u_ws RX7 TX7 3, w ∈ pq_G := by
  show ∀ w ∈ [u_lay RX7 TX7 0, u_lay RX7 TX7 1, u_lay RX7 TX7 2], w ∈ pq_G
  exact List.forall_mem_cons.mpr ⟨pq_t1 190 rfl rfl, List.forall_mem_cons.mpr ⟨pq_t1 192 rfl rfl, List.forall_mem_cons.mpr ⟨pq_t1 194 rfl rfl, fun _ z => absurd z List.not_mem_nil⟩⟩⟩
def TX8 : u_T := fun k => match k with
  | 0 => ("FormsAboveNought$UndoLog", "size", "I", false)
  | 1 => ("FormsAboveNought$UndoLog", "form", "[I", true)
  | 2 => ("FormsAboveNought$UndoLog", "term", "[I", true)
  | 3 => ("FormsAboveNought$UndoLog", "first", "[I", true)
  | 4 => ("FormsAboveNought$UndoLog", "second", "[I", true)
  | _ => ("FormsAboveNought$UndoLog", "next", "I", false)
def tyX8 : Nat → FieldType := fun k => match k with
  | 0 => .int
  | 1 => .array .int
  | 2 => .array .int
  | 3 => .array .int
  | 4 => .array .int
  | _ => .int
set_option maxRecDepth 8000 in
theorem nmX8 : ∀ a, a < 6 → ∀ b, b < 6 → a ≠ b → (TX8 a).2.1 ≠ (TX8 b).2.1 := by decide +kernel
set_option maxRecDepth 8000 in
theorem tyX8_ok : ∀ k, k < 6 → parseFieldDescriptor (TX8 k).2.2.1 = some (tyX8 k) := by decide +kernel
set_option maxRecDepth 8000 in
theorem uw_X8 : ∀ w ∈ u_ws RX8 TX8 6, w ∈ pq_G := by
  show ∀ w ∈ [u_lay RX8 TX8 0, u_lay RX8 TX8 1, u_lay RX8 TX8 2, u_lay RX8 TX8 3, u_lay RX8 TX8 4, u_lay RX8 TX8 5], w ∈ pq_G
  exact List.forall_mem_cons.mpr ⟨pq_t1 231 rfl rfl, List.forall_mem_cons.mpr ⟨pq_t1 233 rfl rfl, List.forall_mem_cons.mpr ⟨pq_t1 235 rfl rfl, List.forall_mem_cons.mpr ⟨pq_t1 237 rfl rfl, List.forall_mem_cons.mpr ⟨pq_t1 239 rfl rfl, List.forall_mem_cons.mpr ⟨pq_t2 1 rfl rfl, fun _ z => absurd z List.not_mem_nil⟩⟩⟩⟩⟩⟩
def TX9 : u_T := fun k => match k with
  | 0 => ("FormsAboveNought$Work", "cell", "[J", true)
  | _ => ("FormsAboveNought$Work", "degree", "I", false)
def tyX9 : Nat → FieldType := fun k => match k with
  | 0 => .array .long
  | _ => .int
set_option maxRecDepth 8000 in
theorem nmX9 : ∀ a, a < 2 → ∀ b, b < 2 → a ≠ b → (TX9 a).2.1 ≠ (TX9 b).2.1 := by decide +kernel
set_option maxRecDepth 8000 in
theorem tyX9_ok : ∀ k, k < 2 → parseFieldDescriptor (TX9 k).2.2.1 = some (tyX9 k) := by decide +kernel
set_option maxRecDepth 8000 in
theorem uw_X9 : ∀ w ∈ u_ws RX9 TX9 2, w ∈ pq_G := by
  show ∀ w ∈ [u_lay RX9 TX9 0, u_lay RX9 TX9 1], w ∈ pq_G
  exact List.forall_mem_cons.mpr ⟨pq_t1 45 rfl rfl, List.forall_mem_cons.mpr ⟨pq_t1 47 rfl rfl, fun _ z => absurd z List.not_mem_nil⟩⟩
def TX10 : u_T := fun k => match k with
  | 0 => ("FormsAboveNought", "shelf", "LFormsAboveNought$Shelf;", true)
  | 1 => ("FormsAboveNought", "letters", "LFormsAboveNought$Letters;", true)
  | 2 => ("FormsAboveNought", "formReader", "LFormsAboveNought$FormReader;", true)
  | 3 => ("FormsAboveNought", "actReader", "LFormsAboveNought$ActReader;", true)
  | 4 => ("FormsAboveNought", "speller", "LFormsAboveNought$Speller;", true)
  | 5 => ("FormsAboveNought", "maker", "LFormsAboveNought$Maker;", true)
  | 6 => ("FormsAboveNought", "log", "LFormsAboveNought$UndoLog;", true)
  | 7 => ("FormsAboveNought", "lists", "LFormsAboveNought$Lists;", true)
  | _ => ("FormsAboveNought", "refusals", "[I", true)
def tyX10 : Nat → FieldType := fun k => match k with
  | 0 => .object "FormsAboveNought$Shelf"
  | 1 => .object "FormsAboveNought$Letters"
  | 2 => .object "FormsAboveNought$FormReader"
  | 3 => .object "FormsAboveNought$ActReader"
  | 4 => .object "FormsAboveNought$Speller"
  | 5 => .object "FormsAboveNought$Maker"
  | 6 => .object "FormsAboveNought$UndoLog"
  | 7 => .object "FormsAboveNought$Lists"
  | _ => .array .int
set_option maxRecDepth 8000 in
theorem nmX10 : ∀ a, a < 9 → ∀ b, b < 9 → a ≠ b → (TX10 a).2.1 ≠ (TX10 b).2.1 := by decide +kernel
set_option maxRecDepth 8000 in
theorem tyX10_ok : ∀ k, k < 9 → parseFieldDescriptor (TX10 k).2.2.1 = some (tyX10 k) := by decide +kernel
set_option maxRecDepth 8000 in
theorem uw_X10 : ∀ w ∈ u_ws RX10 TX10 9, w ∈ pq_G := by
  show ∀ w ∈ [u_lay RX10 TX10 0, u_lay RX10 TX10 1, u_lay RX10 TX10 2, u_lay RX10 TX10 3, u_lay RX10 TX10 4, u_lay RX10 TX10 5, u_lay RX10 TX10 6, u_lay RX10 TX10 7, u_lay RX10 TX10 8], w ∈ pq_G
  exact List.forall_mem_cons.mpr ⟨pq_t2 30 rfl rfl, List.forall_mem_cons.mpr ⟨pq_t2 32 rfl rfl, List.forall_mem_cons.mpr ⟨pq_t2 34 rfl rfl, List.forall_mem_cons.mpr ⟨pq_t2 36 rfl rfl, List.forall_mem_cons.mpr ⟨pq_t2 38 rfl rfl, List.forall_mem_cons.mpr ⟨pq_t2 40 rfl rfl, List.forall_mem_cons.mpr ⟨pq_t2 42 rfl rfl, List.forall_mem_cons.mpr ⟨pq_t2 44 rfl rfl, List.forall_mem_cons.mpr ⟨pq_t2 46 rfl rfl, fun _ z => absurd z List.not_mem_nil⟩⟩⟩⟩⟩⟩⟩⟩⟩
def TX11 : u_T := fun k => match k with
  | 0 => ("FormsAboveNoughtModel", "refusals", "[I", true)
  | 1 => ("FormsAboveNoughtModel", "told", "[I", true)
  | 2 => ("FormsAboveNoughtModel", "kinds", "[I", true)
  | 3 => ("FormsAboveNoughtModel", "figures", "[I", true)
  | 4 => ("FormsAboveNoughtModel", "degrees", "[I", true)
  | 5 => ("FormsAboveNoughtModel", "forms", "I", false)
  | 6 => ("FormsAboveNoughtModel", "undoWhere", "[I", true)
  | 7 => ("FormsAboveNoughtModel", "undoWas", "[I", true)
  | 8 => ("FormsAboveNoughtModel", "undos", "I", false)
  | 9 => ("FormsAboveNoughtModel", "coming", "[J", true)
  | 10 => ("FormsAboveNoughtModel", "tape", "[I", true)
  | 11 => ("FormsAboveNoughtModel", "taped", "I", false)
  | 12 => ("FormsAboveNoughtModel", "at", "I", false)
  | 13 => ("FormsAboveNoughtModel", "powers", "[I", true)
  | 14 => ("FormsAboveNoughtModel", "actWord", "[I", true)
  | 15 => ("FormsAboveNoughtModel", "actPlace", "[I", true)
  | 16 => ("FormsAboveNoughtModel", "actOne", "[I", true)
  | 17 => ("FormsAboveNoughtModel", "actTwo", "[I", true)
  | 18 => ("FormsAboveNoughtModel", "actMany", "I", false)
  | 19 => ("FormsAboveNoughtModel", "now", "[J", true)
  | 20 => ("FormsAboveNoughtModel", "ahead", "[J", true)
  | 21 => ("FormsAboveNoughtModel", "deep", "I", false)
  | 22 => ("FormsAboveNoughtModel", "x", "I", false)
  | 23 => ("FormsAboveNoughtModel", "y", "I", false)
  | 24 => ("FormsAboveNoughtModel", "z", "I", false)
  | 25 => ("FormsAboveNoughtModel", "points", "I", false)
  | 26 => ("FormsAboveNoughtModel", "above", "I", false)
  | 27 => ("FormsAboveNoughtModel", "lowestAt", "I", false)
  | 28 => ("FormsAboveNoughtModel", "lowestValue", "J", false)
  | 29 => ("FormsAboveNoughtModel", "columns", "[I", true)
  | 30 => ("FormsAboveNoughtModel", "columnOf", "[I", true)
  | 31 => ("FormsAboveNoughtModel", "width", "I", false)
  | 32 => ("FormsAboveNoughtModel", "a", "I", false)
  | 33 => ("FormsAboveNoughtModel", "b", "I", false)
  | 34 => ("FormsAboveNoughtModel", "c", "I", false)
  | 35 => ("FormsAboveNoughtModel", "spelt", "[I", true)
  | 36 => ("FormsAboveNoughtModel", "signs", "I", false)
  | 37 => ("FormsAboveNoughtModel", "lot", "I", false)
  | 38 => ("FormsAboveNoughtModel", "sizes", "[I", true)
  | 39 => ("FormsAboveNoughtModel", "items", "[I", true)
  | 40 => ("FormsAboveNoughtModel", "kept", "[I", true)
  | 41 => ("FormsAboveNoughtModel", "cursor", "I", false)
  | 42 => ("FormsAboveNoughtModel", "imaged", "I", false)
  | _ => ("FormsAboveNoughtModel", "isKeeping", "Z", false)
def tyX11 : Nat → FieldType := fun k => match k with
  | 0 => .array .int
  | 1 => .array .int
  | 2 => .array .int
  | 3 => .array .int
  | 4 => .array .int
  | 5 => .int
  | 6 => .array .int
  | 7 => .array .int
  | 8 => .int
  | 9 => .array .long
  | 10 => .array .int
  | 11 => .int
  | 12 => .int
  | 13 => .array .int
  | 14 => .array .int
  | 15 => .array .int
  | 16 => .array .int
  | 17 => .array .int
  | 18 => .int
  | 19 => .array .long
  | 20 => .array .long
  | 21 => .int
  | 22 => .int
  | 23 => .int
  | 24 => .int
  | 25 => .int
  | 26 => .int
  | 27 => .int
  | 28 => .long
  | 29 => .array .int
  | 30 => .array .int
  | 31 => .int
  | 32 => .int
  | 33 => .int
  | 34 => .int
  | 35 => .array .int
  | 36 => .int
  | 37 => .int
  | 38 => .array .int
  | 39 => .array .int
  | 40 => .array .int
  | 41 => .int
  | 42 => .int
  | _ => .boolean
set_option maxRecDepth 8000 in
theorem nmX11 : ∀ a, a < 44 → ∀ b, b < 44 → a ≠ b → (TX11 a).2.1 ≠ (TX11 b).2.1 := by decide +kernel
set_option maxRecDepth 8000 in
theorem tyX11_ok : ∀ k, k < 44 → parseFieldDescriptor (TX11 k).2.2.1 = some (tyX11 k) := by decide +kernel
set_option maxRecDepth 8000 in
theorem uw_X11 : ∀ w ∈ u_ws RX11 TX11 44, w ∈ pq_G := by
  show ∀ w ∈ [u_lay RX11 TX11 0, u_lay RX11 TX11 1, u_lay RX11 TX11 2, u_lay RX11 TX11 3, u_lay RX11 TX11 4, u_lay RX11 TX11 5, u_lay RX11 TX11 6, u_lay RX11 TX11 7, u_lay RX11 TX11 8, u_lay RX11 TX11 9, u_lay RX11 TX11 10, u_lay RX11 TX11 11, u_lay RX11 TX11 12, u_lay RX11 TX11 13, u_lay RX11 TX11 14, u_lay RX11 TX11 15, u_lay RX11 TX11 16, u_lay RX11 TX11 17, u_lay RX11 TX11 18, u_lay RX11 TX11 19, u_lay RX11 TX11 20, u_lay RX11 TX11 21, u_lay RX11 TX11 22, u_lay RX11 TX11 23, u_lay RX11 TX11 24, u_lay RX11 TX11 25, u_lay RX11 TX11 26, u_lay RX11 TX11 27, u_lay RX11 TX11 28, u_lay RX11 TX11 29, u_lay RX11 TX11 30, u_lay RX11 TX11 31, u_lay RX11 TX11 32, u_lay RX11 TX11 33, u_lay RX11 TX11 34, u_lay RX11 TX11 35, u_lay RX11 TX11 36, u_lay RX11 TX11 37, u_lay RX11 TX11 38, u_lay RX11 TX11 39, u_lay RX11 TX11 40, u_lay RX11 TX11 41, u_lay RX11 TX11 42, u_lay RX11 TX11 43], w ∈ pq_G
  exact List.forall_mem_cons.mpr ⟨pq_t5 2 rfl rfl, List.forall_mem_cons.mpr ⟨pq_t5 4 rfl rfl, List.forall_mem_cons.mpr ⟨pq_t5 6 rfl rfl, List.forall_mem_cons.mpr ⟨pq_t5 8 rfl rfl, List.forall_mem_cons.mpr ⟨pq_t5 10 rfl rfl, List.forall_mem_cons.mpr ⟨pq_t5 12 rfl rfl, List.forall_mem_cons.mpr ⟨pq_t5 14 rfl rfl, List.forall_mem_cons.mpr ⟨pq_t5 16 rfl rfl, List.forall_mem_cons.mpr ⟨pq_t5 18 rfl rfl, List.forall_mem_cons.mpr ⟨pq_t5 20 rfl rfl, List.forall_mem_cons.mpr ⟨pq_t5 22 rfl rfl, List.forall_mem_cons.mpr ⟨pq_t5 24 rfl rfl, List.forall_mem_cons.mpr ⟨pq_t5 26 rfl rfl, List.forall_mem_cons.mpr ⟨pq_t5 28 rfl rfl, List.forall_mem_cons.mpr ⟨pq_t5 30 rfl rfl, List.forall_mem_cons.mpr ⟨pq_t5 32 rfl rfl, List.forall_mem_cons.mpr ⟨pq_t5 34 rfl rfl, List.forall_mem_cons.mpr ⟨pq_t5 36 rfl rfl, List.forall_mem_cons.mpr ⟨pq_t5 38 rfl rfl, List.forall_mem_cons.mpr ⟨pq_t5 40 rfl rfl, List.forall_mem_cons.mpr ⟨pq_t5 42 rfl rfl, List.forall_mem_cons.mpr ⟨pq_t5 44 rfl rfl, List.forall_mem_cons.mpr ⟨pq_t5 46 rfl rfl, List.forall_mem_cons.mpr ⟨pq_t5 48 rfl rfl, List.forall_mem_cons.mpr ⟨pq_t5 50 rfl rfl, List.forall_mem_cons.mpr ⟨pq_t5 52 rfl rfl, List.forall_mem_cons.mpr ⟨pq_t5 54 rfl rfl, List.forall_mem_cons.mpr ⟨pq_t5 56 rfl rfl, List.forall_mem_cons.mpr ⟨pq_t5 58 rfl rfl, List.forall_mem_cons.mpr ⟨pq_t5 60 rfl rfl, List.forall_mem_cons.mpr ⟨pq_t5 62 rfl rfl, List.forall_mem_cons.mpr ⟨pq_t5 64 rfl rfl, List.forall_mem_cons.mpr ⟨pq_t5 66 rfl rfl, List.forall_mem_cons.mpr ⟨pq_t5 68 rfl rfl, List.forall_mem_cons.mpr ⟨pq_t5 70 rfl rfl, List.forall_mem_cons.mpr ⟨pq_t5 72 rfl rfl, List.forall_mem_cons.mpr ⟨pq_t5 74 rfl rfl, List.forall_mem_cons.mpr ⟨pq_t5 76 rfl rfl, List.forall_mem_cons.mpr ⟨pq_t5 78 rfl rfl, List.forall_mem_cons.mpr ⟨pq_t5 80 rfl rfl, List.forall_mem_cons.mpr ⟨pq_t5 82 rfl rfl, List.forall_mem_cons.mpr ⟨pq_t5 84 rfl rfl, List.forall_mem_cons.mpr ⟨pq_t5 86 rfl rfl, List.forall_mem_cons.mpr ⟨pq_t5 88 rfl rfl, fun _ z => absurd z List.not_mem_nil⟩⟩⟩⟩⟩⟩⟩⟩⟩⟩⟩⟩⟩⟩⟩⟩⟩⟩⟩⟩⟩⟩⟩⟩⟩⟩⟩⟩⟩⟩⟩⟩⟩⟩⟩⟩⟩⟩⟩⟩⟩⟩⟩⟩
abbrev vwCl : List vw_C := [(RX0, TX0, 7), (RX1, TX1, 4), (RX2, TX2, 5), (RX3, TX3, 2), (RX4, TX4, 2), (RX5, TX5, 4), (RX6, TX6, 5), (RX7, TX7, 3), (RX8, TX8, 6), (RX9, TX9, 2), (RX10, TX10, 9), (RX11, TX11, 44)]
abbrev cX0_init : ByteArray := prog_2_method_1_code
def yX0_init : MethodName := ⟨RX0, "<init>", "()V"⟩
abbrev cX0_read : ByteArray := prog_2_method_2_code
def yX0_read : MethodName := ⟨RX0, "read", "(LFormsAboveNought$Letters;)I"⟩
abbrev cX0_readAct : ByteArray := prog_2_method_3_code
def yX0_readAct : MethodName := ⟨RX0, "readAct", "()Z"⟩
abbrev cX0_readNumber : ByteArray := prog_2_method_4_code
def yX0_readNumber : MethodName := ⟨RX0, "readNumber", "()I"⟩
abbrev cX0_wordAt : ByteArray := prog_2_method_5_code
def yX0_wordAt : MethodName := ⟨RX0, "wordAt", "(I)I"⟩
abbrev cX0_textOf : ByteArray := prog_2_method_6_code
def yX0_textOf : MethodName := ⟨RX0, "textOf", "(I)Ljava/lang/String;"⟩
abbrev cX1_init : ByteArray := prog_3_method_1_code
def yX1_init : MethodName := ⟨RX1, "<init>", "()V"⟩
abbrev cX1_makeNought : ByteArray := prog_3_method_2_code
def yX1_makeNought : MethodName := ⟨RX1, "makeNought", "()V"⟩
abbrev cX1_copyOf : ByteArray := prog_3_method_3_code
def yX1_copyOf : MethodName := ⟨RX1, "copyOf", "(LFormsAboveNought$Form;)V"⟩
abbrev cX1_has : ByteArray := prog_3_method_4_code
def yX1_has : MethodName := ⟨RX1, "has", "(III)I"⟩
abbrev cX1_at : ByteArray := prog_3_method_5_code
def yX1_at : MethodName := ⟨RX1, "at", "(I)I"⟩
abbrev cX1_howMany : ByteArray := prog_3_method_6_code
def yX1_howMany : MethodName := ⟨RX1, "howMany", "(Z)I"⟩
abbrev cX2_init : ByteArray := prog_4_method_1_code
def yX2_init : MethodName := ⟨RX2, "<init>", "()V"⟩
abbrev cX2_read : ByteArray := prog_4_method_2_code
def yX2_read : MethodName := ⟨RX2, "read", "(LFormsAboveNought$Letters;LFormsAboveNought$Form;)I"⟩
abbrev cX2_readMember : ByteArray := prog_4_method_3_code
def yX2_readMember : MethodName := ⟨RX2, "readMember", "(LFormsAboveNought$Form;Z)Z"⟩
abbrev cX2_readNumber : ByteArray := prog_4_method_4_code
def yX2_readNumber : MethodName := ⟨RX2, "readNumber", "()I"⟩
abbrev cX2_readPower : ByteArray := prog_4_method_5_code
def yX2_readPower : MethodName := ⟨RX2, "readPower", "(I)Z"⟩
abbrev cX2_fits : ByteArray := prog_4_method_6_code
def yX2_fits : MethodName := ⟨RX2, "fits", "(I)Z"⟩
abbrev cX3_init : ByteArray := prog_5_method_1_code
def yX3_init : MethodName := ⟨RX3, "<init>", "()V"⟩
abbrev cX3_add : ByteArray := prog_5_method_2_code
def yX3_add : MethodName := ⟨RX3, "add", "(I)V"⟩
abbrev cX3_at : ByteArray := prog_5_method_3_code
def yX3_at : MethodName := ⟨RX3, "at", "(I)I"⟩
abbrev cX3_hasDigit : ByteArray := prog_5_method_4_code
def yX3_hasDigit : MethodName := ⟨RX3, "hasDigit", "(I)Z"⟩
abbrev cX3_hasSmall : ByteArray := prog_5_method_5_code
def yX3_hasSmall : MethodName := ⟨RX3, "hasSmall", "(I)Z"⟩
abbrev cX3_hasText : ByteArray := prog_5_method_6_code
def yX3_hasText : MethodName := ⟨RX3, "hasText", "(Ljava/lang/String;I)Z"⟩
abbrev cX4_init : ByteArray := prog_6_method_1_code
def yX4_init : MethodName := ⟨RX4, "<init>", "()V"⟩
abbrev cX4_misses : ByteArray := prog_6_method_2_code
def yX4_misses : MethodName := ⟨RX4, "misses", "(I)Z"⟩
abbrev cX4_renew : ByteArray := prog_6_method_3_code
def yX4_renew : MethodName := ⟨RX4, "renew", "(II)V"⟩
abbrev cX4_isPolynomial : ByteArray := prog_6_method_4_code
def yX4_isPolynomial : MethodName := ⟨RX4, "isPolynomial", "(I)Z"⟩
abbrev cX4_wall : ByteArray := prog_6_method_5_code
def yX4_wall : MethodName := ⟨RX4, "wall", "(III)J"⟩
abbrev cX4_wallsClear : ByteArray := prog_6_method_6_code
def yX4_wallsClear : MethodName := ⟨RX4, "wallsClear", "(III)Z"⟩
abbrev cX4_ways : ByteArray := prog_6_method_7_code
def yX4_ways : MethodName := ⟨RX4, "ways", "(II)J"⟩
abbrev cX5_init : ByteArray := prog_7_method_1_code
def yX5_init : MethodName := ⟨RX5, "<init>", "()V"⟩
abbrev cX5_makes : ByteArray := prog_7_method_2_code
def yX5_makes : MethodName := ⟨RX5, "makes", "(LFormsAboveNought$Shelf;II)Z"⟩
abbrev cX5_fill : ByteArray := prog_7_method_3_code
def yX5_fill : MethodName := ⟨RX5, "fill", "(ILFormsAboveNought$Form;)V"⟩
abbrev cX5_lead : ByteArray := prog_7_method_4_code
def yX5_lead : MethodName := ⟨RX5, "lead", "(II)I"⟩
abbrev cX5_leader : ByteArray := prog_7_method_5_code
def yX5_leader : MethodName := ⟨RX5, "leader", "(II)I"⟩
abbrev cX5_takeAway : ByteArray := prog_7_method_6_code
def yX5_takeAway : MethodName := ⟨RX5, "takeAway", "(III)V"⟩
abbrev cX5_fraction : ByteArray := prog_7_method_7_code
def yX5_fraction : MethodName := ⟨RX5, "fraction", "(III)J"⟩
abbrev cX6_init : ByteArray := prog_8_method_1_code
def yX6_init : MethodName := ⟨RX6, "<init>", "()V"⟩
abbrev cX6_isFull : ByteArray := prog_8_method_2_code
def yX6_isFull : MethodName := ⟨RX6, "isFull", "()Z"⟩
abbrev cX6_lacks : ByteArray := prog_8_method_3_code
def yX6_lacks : MethodName := ⟨RX6, "lacks", "(I)Z"⟩
abbrev cX6_lacksOf : ByteArray := prog_8_method_4_code
def yX6_lacksOf : MethodName := ⟨RX6, "lacksOf", "(I)Z"⟩
abbrev cX6_keepImage : ByteArray := prog_8_method_5_code
def yX6_keepImage : MethodName := ⟨RX6, "keepImage", "()V"⟩
abbrev cX6_restoreImage : ByteArray := prog_8_method_6_code
def yX6_restoreImage : MethodName := ⟨RX6, "restoreImage", "()V"⟩
abbrev cX6_termsOfAll : ByteArray := prog_8_method_7_code
def yX6_termsOfAll : MethodName := ⟨RX6, "termsOfAll", "()I"⟩
abbrev cX6_clearForms : ByteArray := prog_8_method_8_code
def yX6_clearForms : MethodName := ⟨RX6, "clearForms", "()I"⟩
abbrev cX6_canMake : ByteArray := prog_8_method_9_code
def yX6_canMake : MethodName := ⟨RX6, "canMake", "(II)Z"⟩
abbrev cX6_isSmall : ByteArray := prog_8_method_10_code
def yX6_isSmall : MethodName := ⟨RX6, "isSmall", "(LFormsAboveNought$Form;)Z"⟩
abbrev cX6_perform : ByteArray := prog_8_method_11_code
def yX6_perform : MethodName := ⟨RX6, "perform", "(LFormsAboveNought$ActReader;)I"⟩
abbrev cX6_performOne : ByteArray := prog_8_method_12_code
def yX6_performOne : MethodName := ⟨RX6, "performOne", "(III)Z"⟩
abbrev cX6_bringSum : ByteArray := prog_8_method_13_code
def yX6_bringSum : MethodName := ⟨RX6, "bringSum", "(II)Z"⟩
abbrev cX6_bringProduct : ByteArray := prog_8_method_14_code
def yX6_bringProduct : MethodName := ⟨RX6, "bringProduct", "(II)Z"⟩
abbrev cX6_addTimes : ByteArray := prog_8_method_15_code
def yX6_addTimes : MethodName := ⟨RX6, "addTimes", "(JIILFormsAboveNought$Form;)V"⟩
abbrev cX6_bringLift : ByteArray := prog_8_method_16_code
def yX6_bringLift : MethodName := ⟨RX6, "bringLift", "(II)Z"⟩
abbrev cX6_bringNegative : ByteArray := prog_8_method_17_code
def yX6_bringNegative : MethodName := ⟨RX6, "bringNegative", "(I)Z"⟩
abbrev cX6_bringOn : ByteArray := prog_8_method_18_code
def yX6_bringOn : MethodName := ⟨RX6, "bringOn", "(II)Z"⟩
abbrev cX6_settle : ByteArray := prog_8_method_19_code
def yX6_settle : MethodName := ⟨RX6, "settle", "()Z"⟩
abbrev cX7_init : ByteArray := prog_9_method_1_code
def yX7_init : MethodName := ⟨RX7, "<init>", "()V"⟩
abbrev cX7_spell : ByteArray := prog_9_method_2_code
def yX7_spell : MethodName := ⟨RX7, "spell", "(LFormsAboveNought$Form;I)V"⟩
abbrev cX7_spellTerm : ByteArray := prog_9_method_3_code
def yX7_spellTerm : MethodName := ⟨RX7, "spellTerm", "(LFormsAboveNought$Form;III)V"⟩
abbrev cX7_spellNumber : ByteArray := prog_9_method_4_code
def yX7_spellNumber : MethodName := ⟨RX7, "spellNumber", "(I)V"⟩
abbrev cX7_spellPower : ByteArray := prog_9_method_5_code
def yX7_spellPower : MethodName := ⟨RX7, "spellPower", "(II)V"⟩
abbrev cX7_add : ByteArray := prog_9_method_6_code
def yX7_add : MethodName := ⟨RX7, "add", "(I)V"⟩
abbrev cX8_init : ByteArray := prog_10_method_1_code
def yX8_init : MethodName := ⟨RX8, "<init>", "()V"⟩
abbrev cX8_add : ByteArray := prog_10_method_2_code
def yX8_add : MethodName := ⟨RX8, "add", "(IIII)V"⟩
abbrev cX8_takeBack : ByteArray := prog_10_method_3_code
def yX8_takeBack : MethodName := ⟨RX8, "takeBack", "(LFormsAboveNought$Shelf;)V"⟩
abbrev cX9_init : ByteArray := prog_11_method_1_code
def yX9_init : MethodName := ⟨RX9, "<init>", "()V"⟩
abbrev cX9_makeNought : ByteArray := prog_11_method_2_code
def yX9_makeNought : MethodName := ⟨RX9, "makeNought", "(I)V"⟩
abbrev cX9_takeOn : ByteArray := prog_11_method_3_code
def yX9_takeOn : MethodName := ⟨RX9, "takeOn", "(LFormsAboveNought$Form;I)V"⟩
abbrev cX9_raise : ByteArray := prog_11_method_4_code
def yX9_raise : MethodName := ⟨RX9, "raise", "(II)V"⟩
abbrev cX9_raiseOnce : ByteArray := prog_11_method_5_code
def yX9_raiseOnce : MethodName := ⟨RX9, "raiseOnce", "(I)V"⟩
abbrev cX9_among : ByteArray := prog_11_method_6_code
def yX9_among : MethodName := ⟨RX9, "among", "(II)J"⟩
abbrev cX9_firstFault : ByteArray := prog_11_method_7_code
def yX9_firstFault : MethodName := ⟨RX9, "firstFault", "(II)I"⟩
abbrev cX9_leastLift : ByteArray := prog_11_method_8_code
def yX9_leastLift : MethodName := ⟨RX9, "leastLift", "(II)I"⟩
abbrev cX9_worth : ByteArray := prog_11_method_9_code
def yX9_worth : MethodName := ⟨RX9, "worth", "(III)J"⟩
abbrev cX9_worthAt : ByteArray := prog_11_method_10_code
def yX9_worthAt : MethodName := ⟨RX9, "worthAt", "(III)J"⟩
abbrev cX9_failingSize : ByteArray := prog_11_method_11_code
def yX9_failingSize : MethodName := ⟨RX9, "failingSize", "(II)I"⟩
abbrev cX9_failingPoint : ByteArray := prog_11_method_12_code
def yX9_failingPoint : MethodName := ⟨RX9, "failingPoint", "(III)I"⟩
abbrev cX9_lowestPoint : ByteArray := prog_11_method_13_code
def yX9_lowestPoint : MethodName := ⟨RX9, "lowestPoint", "(II)I"⟩
abbrev cX9_pointsAbove : ByteArray := prog_11_method_14_code
def yX9_pointsAbove : MethodName := ⟨RX9, "pointsAbove", "(II)I"⟩
abbrev cX10_init : ByteArray := prog_1_method_1_code
def yX10_init : MethodName := ⟨RX10, "<init>", "()V"⟩
abbrev cX10_letter : ByteArray := prog_1_method_2_code
def yX10_letter : MethodName := ⟨RX10, "letter", "(I)I"⟩
abbrev cX10_form : ByteArray := prog_1_method_3_code
def yX10_form : MethodName := ⟨RX10, "form", "()I"⟩
abbrev cX10_acts : ByteArray := prog_1_method_4_code
def yX10_acts : MethodName := ⟨RX10, "acts", "()I"⟩
abbrev cX10_drop : ByteArray := prog_1_method_5_code
def yX10_drop : MethodName := ⟨RX10, "drop", "()I"⟩
abbrev cX10_change : ByteArray := prog_1_method_6_code
def yX10_change : MethodName := ⟨RX10, "change", "(III)I"⟩
abbrev cX10_turn : ByteArray := prog_1_method_7_code
def yX10_turn : MethodName := ⟨RX10, "turn", "(III)I"⟩
abbrev cX10_of : ByteArray := prog_1_method_8_code
def yX10_of : MethodName := ⟨RX10, "of", "(II)I"⟩
abbrev cX10_taken : ByteArray := prog_1_method_9_code
def yX10_taken : MethodName := ⟨RX10, "taken", "(II)I"⟩
abbrev cX10_coefficient : ByteArray := prog_1_method_10_code
def yX10_coefficient : MethodName := ⟨RX10, "coefficient", "(II)I"⟩
abbrev cX10_value : ByteArray := prog_1_method_11_code
def yX10_value : MethodName := ⟨RX10, "value", "(IIII)J"⟩
abbrev cX10_lifted : ByteArray := prog_1_method_12_code
def yX10_lifted : MethodName := ⟨RX10, "lifted", "(IIII)J"⟩
abbrev cX10_fault : ByteArray := prog_1_method_13_code
def yX10_fault : MethodName := ⟨RX10, "fault", "(IIII)I"⟩
abbrev cX10_least : ByteArray := prog_1_method_14_code
def yX10_least : MethodName := ⟨RX10, "least", "(III)I"⟩
abbrev cX10_failing : ByteArray := prog_1_method_15_code
def yX10_failing : MethodName := ⟨RX10, "failing", "(IIII)I"⟩
abbrev cX10_lowest : ByteArray := prog_1_method_16_code
def yX10_lowest : MethodName := ⟨RX10, "lowest", "(IIII)J"⟩
abbrev cX10_share : ByteArray := prog_1_method_17_code
def yX10_share : MethodName := ⟨RX10, "share", "(IIII)J"⟩
abbrev cX10_proof : ByteArray := prog_1_method_18_code
def yX10_proof : MethodName := ⟨RX10, "proof", "(II)I"⟩
abbrev cX10_walls : ByteArray := prog_1_method_19_code
def yX10_walls : MethodName := ⟨RX10, "walls", "(III)J"⟩
abbrev cX10_wallsLeast : ByteArray := prog_1_method_20_code
def yX10_wallsLeast : MethodName := ⟨RX10, "wallsLeast", "(II)I"⟩
abbrev cX10_made : ByteArray := prog_1_method_21_code
def yX10_made : MethodName := ⟨RX10, "made", "(IIII)J"⟩
abbrev cX10_sum : ByteArray := prog_1_method_22_code
def yX10_sum : MethodName := ⟨RX10, "sum", "(II)I"⟩
abbrev cX10_product : ByteArray := prog_1_method_23_code
def yX10_product : MethodName := ⟨RX10, "product", "(II)I"⟩
abbrev cX10_lift : ByteArray := prog_1_method_24_code
def yX10_lift : MethodName := ⟨RX10, "lift", "(II)I"⟩
abbrev cX10_negative : ByteArray := prog_1_method_25_code
def yX10_negative : MethodName := ⟨RX10, "negative", "(I)I"⟩
abbrev cX10_on : ByteArray := prog_1_method_26_code
def yX10_on : MethodName := ⟨RX10, "on", "(II)I"⟩
abbrev cX10_spelled : ByteArray := prog_1_method_27_code
def yX10_spelled : MethodName := ⟨RX10, "spelled", "(II)I"⟩
abbrev cX10_lots : ByteArray := prog_1_method_28_code
def yX10_lots : MethodName := ⟨RX10, "lots", "(IIII)I"⟩
abbrev cX10_list : ByteArray := prog_1_method_29_code
def yX10_list : MethodName := ⟨RX10, "list", "(II)I"⟩
abbrev cX10_put : ByteArray := prog_1_method_30_code
def yX10_put : MethodName := ⟨RX10, "put", "(III)I"⟩
abbrev cX10_look : ByteArray := prog_1_method_31_code
def yX10_look : MethodName := ⟨RX10, "look", "(II)J"⟩
abbrev cX10_lays : ByteArray := prog_1_method_32_code
def yX10_lays : MethodName := ⟨RX10, "lays", "(III)I"⟩
abbrev cX10_judge : ByteArray := prog_1_method_33_code
def yX10_judge : MethodName := ⟨RX10, "judge", "(II)I"⟩
abbrev cX10_undo : ByteArray := prog_1_method_34_code
def yX10_undo : MethodName := ⟨RX10, "undo", "()I"⟩
abbrev cX10_image : ByteArray := prog_1_method_35_code
def yX10_image : MethodName := ⟨RX10, "image", "()I"⟩
abbrev cX10_back : ByteArray := prog_1_method_36_code
def yX10_back : MethodName := ⟨RX10, "back", "()I"⟩
abbrev cX10_count : ByteArray := prog_1_method_37_code
def yX10_count : MethodName := ⟨RX10, "count", "(I)I"⟩
abbrev cX10_refuse : ByteArray := prog_1_method_38_code
def yX10_refuse : MethodName := ⟨RX10, "refuse", "(I)I"⟩
abbrev cX10_refuseFarInt : ByteArray := prog_1_method_39_code
def yX10_refuseFarInt : MethodName := ⟨RX10, "refuseFarInt", "(I)I"⟩
abbrev cX10_refuseFar : ByteArray := prog_1_method_40_code
def yX10_refuseFar : MethodName := ⟨RX10, "refuseFar", "(I)J"⟩
abbrev cX10_pointsRefused : ByteArray := prog_1_method_41_code
def yX10_pointsRefused : MethodName := ⟨RX10, "pointsRefused", "(IIII)I"⟩
abbrev cX10_cameOr : ByteArray := prog_1_method_42_code
def yX10_cameOr : MethodName := ⟨RX10, "cameOr", "(Z)I"⟩
abbrev cX10_lacksTerm : ByteArray := prog_1_method_43_code
def yX10_lacksTerm : MethodName := ⟨RX10, "lacksTerm", "(II)Z"⟩
abbrev cX10_workOn : ByteArray := prog_1_method_44_code
def yX10_workOn : MethodName := ⟨RX10, "workOn", "(II)LFormsAboveNought$Work;"⟩
abbrev cX10_notBelow : ByteArray := prog_1_method_45_code
def yX10_notBelow : MethodName := ⟨RX10, "notBelow", "(II)Z"⟩
abbrev cX10_termsOf : ByteArray := prog_1_method_46_code
def yX10_termsOf : MethodName := ⟨RX10, "termsOf", "(I)I"⟩
abbrev cX10_termOf : ByteArray := prog_1_method_47_code
def yX10_termOf : MethodName := ⟨RX10, "termOf", "(II)I"⟩
abbrev cX10_behindA : ByteArray := prog_1_method_48_code
def yX10_behindA : MethodName := ⟨RX10, "behindA", "(I)I"⟩
abbrev cX10_isUnder : ByteArray := prog_1_method_49_code
def yX10_isUnder : MethodName := ⟨RX10, "isUnder", "(II)Z"⟩
abbrev cX10_isSide : ByteArray := prog_1_method_50_code
def yX10_isSide : MethodName := ⟨RX10, "isSide", "(I)Z"⟩
abbrev cX10_placesOn : ByteArray := prog_1_method_51_code
def yX10_placesOn : MethodName := ⟨RX10, "placesOn", "(II)I"⟩
abbrev cX10_numberOn : ByteArray := prog_1_method_52_code
def yX10_numberOn : MethodName := ⟨RX10, "numberOn", "(III)I"⟩
abbrev cX10_fails : ByteArray := prog_1_method_53_code
def yX10_fails : MethodName := ⟨RX10, "fails", "(JI)Z"⟩
abbrev cX10_partOf : ByteArray := prog_1_method_54_code
def yX10_partOf : MethodName := ⟨RX10, "partOf", "(JJI)J"⟩
abbrev cX10_commonOf : ByteArray := prog_1_method_55_code
def yX10_commonOf : MethodName := ⟨RX10, "commonOf", "(JJ)J"⟩
abbrev cX10_drawLots : ByteArray := prog_1_method_56_code
def yX10_drawLots : MethodName := ⟨RX10, "drawLots", "(LFormsAboveNought$Work;III)I"⟩
abbrev cX10_nextSeed : ByteArray := prog_1_method_57_code
def yX10_nextSeed : MethodName := ⟨RX10, "nextSeed", "(I)I"⟩
abbrev cX10_drawOf : ByteArray := prog_1_method_58_code
def yX10_drawOf : MethodName := ⟨RX10, "drawOf", "(I)I"⟩
abbrev cX11_no : ByteArray := prog_13_method_1_code
def yX11_no : MethodName := ⟨RX11, "no", "(I)I"⟩
abbrev cX11_far : ByteArray := prog_13_method_2_code
def yX11_far : MethodName := ⟨RX11, "far", "(I)I"⟩
abbrev cX11_lower : ByteArray := prog_13_method_3_code
def yX11_lower : MethodName := ⟨RX11, "lower", "(I)J"⟩
abbrev cX11_isIn : ByteArray := prog_13_method_4_code
def yX11_isIn : MethodName := ⟨RX11, "isIn", "(III)Z"⟩
abbrev cX11_bound : ByteArray := prog_13_method_5_code
def yX11_bound : MethodName := ⟨RX11, "bound", "(III)I"⟩
abbrev cX11_termsOf : ByteArray := prog_13_method_6_code
def yX11_termsOf : MethodName := ⟨RX11, "termsOf", "(I)I"⟩
abbrev cX11_termOf : ByteArray := prog_13_method_7_code
def yX11_termOf : MethodName := ⟨RX11, "termOf", "(III)I"⟩
abbrev cX11_restOf : ByteArray := prog_13_method_8_code
def yX11_restOf : MethodName := ⟨RX11, "restOf", "(I)I"⟩
abbrev cX11_powerIn : ByteArray := prog_13_method_9_code
def yX11_powerIn : MethodName := ⟨RX11, "powerIn", "(III)I"⟩
abbrev cX11_isOn : ByteArray := prog_13_method_10_code
def yX11_isOn : MethodName := ⟨RX11, "isOn", "(III)Z"⟩
abbrev cX11_init : ByteArray := prog_13_method_11_code
def yX11_init : MethodName := ⟨RX11, "<init>", "()V"⟩
abbrev cX11_isForm : ByteArray := prog_13_method_12_code
def yX11_isForm : MethodName := ⟨RX11, "isForm", "(I)Z"⟩
abbrev cX11_isSide : ByteArray := prog_13_method_13_code
def yX11_isSide : MethodName := ⟨RX11, "isSide", "(I)Z"⟩
abbrev cX11_isSort : ByteArray := prog_13_method_14_code
def yX11_isSort : MethodName := ⟨RX11, "isSort", "(I)Z"⟩
abbrev cX11_isTerm : ByteArray := prog_13_method_15_code
def yX11_isTerm : MethodName := ⟨RX11, "isTerm", "(II)Z"⟩
abbrev cX11_toldAt : ByteArray := prog_13_method_16_code
def yX11_toldAt : MethodName := ⟨RX11, "toldAt", "(III)I"⟩
abbrev cX11_coefficientOf : ByteArray := prog_13_method_17_code
def yX11_coefficientOf : MethodName := ⟨RX11, "coefficientOf", "(II)I"⟩
abbrev cX11_many : ByteArray := prog_13_method_18_code
def yX11_many : MethodName := ⟨RX11, "many", "(II)I"⟩
abbrev cX11_notes : ByteArray := prog_13_method_19_code
def yX11_notes : MethodName := ⟨RX11, "notes", "(II)V"⟩
abbrev cX11_undo : ByteArray := prog_13_method_20_code
def yX11_undo : MethodName := ⟨RX11, "undo", "()I"⟩
abbrev cX11_canCome : ByteArray := prog_13_method_21_code
def yX11_canCome : MethodName := ⟨RX11, "canCome", "(I)Z"⟩
abbrev cX11_comes : ByteArray := prog_13_method_22_code
def yX11_comes : MethodName := ⟨RX11, "comes", "(I)I"⟩
abbrev cX11_comesIf : ByteArray := prog_13_method_23_code
def yX11_comesIf : MethodName := ⟨RX11, "comesIf", "(I)I"⟩
abbrev cX11_sums : ByteArray := prog_13_method_24_code
def yX11_sums : MethodName := ⟨RX11, "sums", "(II)I"⟩
abbrev cX11_multiplies : ByteArray := prog_13_method_25_code
def yX11_multiplies : MethodName := ⟨RX11, "multiplies", "(II)I"⟩
abbrev cX11_lifts : ByteArray := prog_13_method_26_code
def yX11_lifts : MethodName := ⟨RX11, "lifts", "(II)I"⟩
abbrev cX11_turnsBelow : ByteArray := prog_13_method_27_code
def yX11_turnsBelow : MethodName := ⟨RX11, "turnsBelow", "(I)I"⟩
abbrev cX11_staysOn : ByteArray := prog_13_method_28_code
def yX11_staysOn : MethodName := ⟨RX11, "staysOn", "(II)I"⟩
abbrev cX11_told : ByteArray := prog_13_method_29_code
def yX11_told : MethodName := ⟨RX11, "told", "(I)I"⟩
abbrev cX11_sum : ByteArray := prog_13_method_30_code
def yX11_sum : MethodName := ⟨RX11, "sum", "(II)I"⟩
abbrev cX11_product : ByteArray := prog_13_method_31_code
def yX11_product : MethodName := ⟨RX11, "product", "(II)I"⟩
abbrev cX11_lift : ByteArray := prog_13_method_32_code
def yX11_lift : MethodName := ⟨RX11, "lift", "(II)I"⟩
abbrev cX11_negative : ByteArray := prog_13_method_33_code
def yX11_negative : MethodName := ⟨RX11, "negative", "(I)I"⟩
abbrev cX11_on : ByteArray := prog_13_method_34_code
def yX11_on : MethodName := ⟨RX11, "on", "(II)I"⟩
abbrev cX11_letter : ByteArray := prog_13_method_35_code
def yX11_letter : MethodName := ⟨RX11, "letter", "(I)I"⟩
abbrev cX11_next : ByteArray := prog_13_method_36_code
def yX11_next : MethodName := ⟨RX11, "next", "()I"⟩
abbrev cX11_isDigit : ByteArray := prog_13_method_37_code
def yX11_isDigit : MethodName := ⟨RX11, "isDigit", "()Z"⟩
abbrev cX11_readsPower : ByteArray := prog_13_method_38_code
def yX11_readsPower : MethodName := ⟨RX11, "readsPower", "(II)Z"⟩
abbrev cX11_readsMember : ByteArray := prog_13_method_39_code
def yX11_readsMember : MethodName := ⟨RX11, "readsMember", "(ZI)I"⟩
abbrev cX11_readsForm : ByteArray := prog_13_method_40_code
def yX11_readsForm : MethodName := ⟨RX11, "readsForm", "()I"⟩
abbrev cX11_form : ByteArray := prog_13_method_41_code
def yX11_form : MethodName := ⟨RX11, "form", "()I"⟩
abbrev cX11_isWord : ByteArray := prog_13_method_42_code
def yX11_isWord : MethodName := ⟨RX11, "isWord", "(IIIIII)Z"⟩
abbrev cX11_readsWord : ByteArray := prog_13_method_43_code
def yX11_readsWord : MethodName := ⟨RX11, "readsWord", "()I"⟩
abbrev cX11_readsNumber : ByteArray := prog_13_method_44_code
def yX11_readsNumber : MethodName := ⟨RX11, "readsNumber", "()I"⟩
abbrev cX11_readsAct : ByteArray := prog_13_method_45_code
def yX11_readsAct : MethodName := ⟨RX11, "readsAct", "()Z"⟩
abbrev cX11_readsActs : ByteArray := prog_13_method_46_code
def yX11_readsActs : MethodName := ⟨RX11, "readsActs", "()Z"⟩
abbrev cX11_does : ByteArray := prog_13_method_47_code
def yX11_does : MethodName := ⟨RX11, "does", "(I)I"⟩
abbrev cX11_acts : ByteArray := prog_13_method_48_code
def yX11_acts : MethodName := ⟨RX11, "acts", "()I"⟩
abbrev cX11_drop : ByteArray := prog_13_method_49_code
def yX11_drop : MethodName := ⟨RX11, "drop", "()I"⟩
abbrev cX11_change : ByteArray := prog_13_method_50_code
def yX11_change : MethodName := ⟨RX11, "change", "(III)I"⟩
abbrev cX11_turn : ByteArray := prog_13_method_51_code
def yX11_turn : MethodName := ⟨RX11, "turn", "(III)I"⟩
abbrev cX11_of : ByteArray := prog_13_method_52_code
def yX11_of : MethodName := ⟨RX11, "of", "(II)I"⟩
abbrev cX11_taken : ByteArray := prog_13_method_53_code
def yX11_taken : MethodName := ⟨RX11, "taken", "(II)I"⟩
abbrev cX11_coefficient : ByteArray := prog_13_method_54_code
def yX11_coefficient : MethodName := ⟨RX11, "coefficient", "(II)I"⟩
abbrev cX11_power : ByteArray := prog_13_method_55_code
def yX11_power : MethodName := ⟨RX11, "power", "(II)J"⟩
abbrev cX11_valueAt : ByteArray := prog_13_method_56_code
def yX11_valueAt : MethodName := ⟨RX11, "valueAt", "(IIII)J"⟩
abbrev cX11_value : ByteArray := prog_13_method_57_code
def yX11_value : MethodName := ⟨RX11, "value", "(IIII)J"⟩
abbrev cX11_takes : ByteArray := prog_13_method_58_code
def yX11_takes : MethodName := ⟨RX11, "takes", "(III)V"⟩
abbrev cX11_rises : ByteArray := prog_13_method_59_code
def yX11_rises : MethodName := ⟨RX11, "rises", "(I)V"⟩
abbrev cX11_firstFault : ByteArray := prog_13_method_60_code
def yX11_firstFault : MethodName := ⟨RX11, "firstFault", "(II)I"⟩
abbrev cX11_notSide : ByteArray := prog_13_method_61_code
def yX11_notSide : MethodName := ⟨RX11, "notSide", "(II)I"⟩
abbrev cX11_lifted : ByteArray := prog_13_method_62_code
def yX11_lifted : MethodName := ⟨RX11, "lifted", "(IIII)J"⟩
abbrev cX11_fault : ByteArray := prog_13_method_63_code
def yX11_fault : MethodName := ⟨RX11, "fault", "(IIII)I"⟩
abbrev cX11_leastOf : ByteArray := prog_13_method_64_code
def yX11_leastOf : MethodName := ⟨RX11, "leastOf", "(III)I"⟩
abbrev cX11_least : ByteArray := prog_13_method_65_code
def yX11_least : MethodName := ⟨RX11, "least", "(III)I"⟩
abbrev cX11_firstPoint : ByteArray := prog_13_method_66_code
def yX11_firstPoint : MethodName := ⟨RX11, "firstPoint", "(I)V"⟩
abbrev cX11_nextPoint : ByteArray := prog_13_method_67_code
def yX11_nextPoint : MethodName := ⟨RX11, "nextPoint", "(I)Z"⟩
abbrev cX11_isPointOn : ByteArray := prog_13_method_68_code
def yX11_isPointOn : MethodName := ⟨RX11, "isPointOn", "(I)Z"⟩
abbrev cX11_looks : ByteArray := prog_13_method_69_code
def yX11_looks : MethodName := ⟨RX11, "looks", "(IIII)I"⟩
abbrev cX11_failsAt : ByteArray := prog_13_method_70_code
def yX11_failsAt : MethodName := ⟨RX11, "failsAt", "(IIII)I"⟩
abbrev cX11_failing : ByteArray := prog_13_method_71_code
def yX11_failing : MethodName := ⟨RX11, "failing", "(IIII)I"⟩
abbrev cX11_notLooked : ByteArray := prog_13_method_72_code
def yX11_notLooked : MethodName := ⟨RX11, "notLooked", "(IIII)I"⟩
abbrev cX11_lowest : ByteArray := prog_13_method_73_code
def yX11_lowest : MethodName := ⟨RX11, "lowest", "(IIII)J"⟩
abbrev cX11_divisor : ByteArray := prog_13_method_74_code
def yX11_divisor : MethodName := ⟨RX11, "divisor", "(JJ)J"⟩
abbrev cX11_partOf : ByteArray := prog_13_method_75_code
def yX11_partOf : MethodName := ⟨RX11, "partOf", "(JJI)J"⟩
abbrev cX11_share : ByteArray := prog_13_method_76_code
def yX11_share : MethodName := ⟨RX11, "share", "(IIII)J"⟩
abbrev cX11_proof : ByteArray := prog_13_method_77_code
def yX11_proof : MethodName := ⟨RX11, "proof", "(II)I"⟩
abbrev cX11_ways : ByteArray := prog_13_method_78_code
def yX11_ways : MethodName := ⟨RX11, "ways", "(II)J"⟩
abbrev cX11_wallOf : ByteArray := prog_13_method_79_code
def yX11_wallOf : MethodName := ⟨RX11, "wallOf", "(III)J"⟩
abbrev cX11_isTold : ByteArray := prog_13_method_80_code
def yX11_isTold : MethodName := ⟨RX11, "isTold", "(I)Z"⟩
abbrev cX11_walls : ByteArray := prog_13_method_81_code
def yX11_walls : MethodName := ⟨RX11, "walls", "(III)J"⟩
abbrev cX11_wallsLeast : ByteArray := prog_13_method_82_code
def yX11_wallsLeast : MethodName := ⟨RX11, "wallsLeast", "(II)I"⟩
abbrev cX11_laysColumn : ByteArray := prog_13_method_83_code
def yX11_laysColumn : MethodName := ⟨RX11, "laysColumn", "(II)V"⟩
abbrev cX11_at : ByteArray := prog_13_method_84_code
def yX11_at : MethodName := ⟨RX11, "at", "(II)J"⟩
abbrev cX11_two : ByteArray := prog_13_method_85_code
def yX11_two : MethodName := ⟨RX11, "two", "(IIII)J"⟩
abbrev cX11_minor : ByteArray := prog_13_method_86_code
def yX11_minor : MethodName := ⟨RX11, "minor", "(IIII)J"⟩
abbrev cX11_findsRows : ByteArray := prog_13_method_87_code
def yX11_findsRows : MethodName := ⟨RX11, "findsRows", "(IIII)Z"⟩
abbrev cX11_isNew : ByteArray := prog_13_method_88_code
def yX11_isNew : MethodName := ⟨RX11, "isNew", "()Z"⟩
abbrev cX11_fillsColumns : ByteArray := prog_13_method_89_code
def yX11_fillsColumns : MethodName := ⟨RX11, "fillsColumns", "(I)V"⟩
abbrev cX11_upOf : ByteArray := prog_13_method_90_code
def yX11_upOf : MethodName := ⟨RX11, "upOf", "(I)J"⟩
abbrev cX11_isMade : ByteArray := prog_13_method_91_code
def yX11_isMade : MethodName := ⟨RX11, "isMade", "()Z"⟩
abbrev cX11_isSmall : ByteArray := prog_13_method_92_code
def yX11_isSmall : MethodName := ⟨RX11, "isSmall", "(I)Z"⟩
abbrev cX11_isSetOf : ByteArray := prog_13_method_93_code
def yX11_isSetOf : MethodName := ⟨RX11, "isSetOf", "(II)Z"⟩
abbrev cX11_made : ByteArray := prog_13_method_94_code
def yX11_made : MethodName := ⟨RX11, "made", "(IIII)J"⟩
abbrev cX11_puts : ByteArray := prog_13_method_95_code
def yX11_puts : MethodName := ⟨RX11, "puts", "(I)V"⟩
abbrev cX11_putsNumber : ByteArray := prog_13_method_96_code
def yX11_putsNumber : MethodName := ⟨RX11, "putsNumber", "(I)V"⟩
abbrev cX11_spells : ByteArray := prog_13_method_97_code
def yX11_spells : MethodName := ⟨RX11, "spells", "(I)V"⟩
abbrev cX11_spelled : ByteArray := prog_13_method_98_code
def yX11_spelled : MethodName := ⟨RX11, "spelled", "(II)I"⟩
abbrev cX11_draw : ByteArray := prog_13_method_99_code
def yX11_draw : MethodName := ⟨RX11, "draw", "(I)I"⟩
abbrev cX11_lots : ByteArray := prog_13_method_100_code
def yX11_lots : MethodName := ⟨RX11, "lots", "(IIII)I"⟩
abbrev cX11_isList : ByteArray := prog_13_method_101_code
def yX11_isList : MethodName := ⟨RX11, "isList", "(I)Z"⟩
abbrev cX11_list : ByteArray := prog_13_method_102_code
def yX11_list : MethodName := ⟨RX11, "list", "(II)I"⟩
abbrev cX11_notPlace : ByteArray := prog_13_method_103_code
def yX11_notPlace : MethodName := ⟨RX11, "notPlace", "(II)I"⟩
abbrev cX11_put : ByteArray := prog_13_method_104_code
def yX11_put : MethodName := ⟨RX11, "put", "(III)I"⟩
abbrev cX11_look : ByteArray := prog_13_method_105_code
def yX11_look : MethodName := ⟨RX11, "look", "(II)J"⟩
abbrev cX11_lays : ByteArray := prog_13_method_106_code
def yX11_lays : MethodName := ⟨RX11, "lays", "(III)I"⟩
abbrev cX11_judge : ByteArray := prog_13_method_107_code
def yX11_judge : MethodName := ⟨RX11, "judge", "(II)I"⟩
abbrev cX11_passOne : ByteArray := prog_13_method_108_code
def yX11_passOne : MethodName := ⟨RX11, "passOne", "(I)I"⟩
abbrev cX11_passesAll : ByteArray := prog_13_method_109_code
def yX11_passesAll : MethodName := ⟨RX11, "passesAll", "(Z)V"⟩
abbrev cX11_image : ByteArray := prog_13_method_110_code
def yX11_image : MethodName := ⟨RX11, "image", "()I"⟩
abbrev cX11_back : ByteArray := prog_13_method_111_code
def yX11_back : MethodName := ⟨RX11, "back", "()I"⟩
abbrev cX11_clearOnes : ByteArray := prog_13_method_112_code
def yX11_clearOnes : MethodName := ⟨RX11, "clearOnes", "()I"⟩
abbrev cX11_allTerms : ByteArray := prog_13_method_113_code
def yX11_allTerms : MethodName := ⟨RX11, "allTerms", "()I"⟩
abbrev cX11_count : ByteArray := prog_13_method_114_code
def yX11_count : MethodName := ⟨RX11, "count", "(I)I"⟩
abbrev cJ6_bitCount_0f7a4 : ByteArray := prog_14_method_49_code
def yJ6_bitCount_0f7a4 : MethodName := ⟨RJ6, "bitCount", "(I)I"⟩
abbrev cJ9_abs_0f7a4 : ByteArray := prog_15_method_59_code
def yJ9_abs_0f7a4 : MethodName := ⟨RJ9, "abs", "(I)I"⟩
abbrev cJ9_abs_067f4 : ByteArray := prog_15_method_61_code
def yJ9_abs_067f4 : MethodName := ⟨RJ9, "abs", "(J)J"⟩
abbrev cJ9_max_7cf53 : ByteArray := prog_15_method_65_code
def yJ9_max_7cf53 : MethodName := ⟨RJ9, "max", "(II)I"⟩
abbrev cJ9_min_7cf53 : ByteArray := prog_15_method_69_code
def yJ9_min_7cf53 : MethodName := ⟨RJ9, "min", "(II)I"⟩
abbrev cJ0_length_8abf5 : ByteArray := prog_16_method_54_code
def yJ0_length_8abf5 : MethodName := ⟨RJ0, "length", "()I"⟩
abbrev cJ0_charAt_5068e : ByteArray := prog_16_method_56_code
def yJ0_charAt_5068e : MethodName := ⟨RJ0, "charAt", "(I)C"⟩
abbrev cJ0_coder_7d493 : ByteArray := prog_16_method_152_code
def yJ0_coder_7d493 : MethodName := ⟨RJ0, "coder", "()B"⟩
abbrev cJ0_isLatin1_aae02 : ByteArray := prog_16_method_154_code
def yJ0_isLatin1_aae02 : MethodName := ⟨RJ0, "isLatin1", "()Z"⟩
abbrev cJ0_checkIndex_df160 : ByteArray := prog_16_method_155_code
def yJ0_checkIndex_df160 : MethodName := ⟨RJ0, "checkIndex", "(II)V"⟩
abbrev cJ1_charAt_3b067 : ByteArray := prog_17_method_2_code
def yJ1_charAt_3b067 : MethodName := ⟨RJ1, "charAt", "([BI)C"⟩
abbrev cJ2_getChar_3b067 : ByteArray := prog_18_method_5_code
def yJ2_getChar_3b067 : MethodName := ⟨RJ2, "getChar", "([BI)C"⟩
abbrev cJ2_length_9d52b : ByteArray := prog_18_method_6_code
def yJ2_length_9d52b : MethodName := ⟨RJ2, "length", "([B)I"⟩
abbrev cJ2_charAt_3b067 : ByteArray := prog_18_method_83_code
def yJ2_charAt_3b067 : MethodName := ⟨RJ2, "charAt", "([BI)C"⟩
abbrev cJ2_checkIndex_2214a : ByteArray := prog_18_method_91_code
def yJ2_checkIndex_2214a : MethodName := ⟨RJ2, "checkIndex", "(I[B)V"⟩
abbrev cJ3_checkIndex_8e157 : ByteArray := prog_19_method_11_code
def yJ3_checkIndex_8e157 : MethodName := ⟨RJ3, "checkIndex", "(IILjava/util/function/BiFunction;)I"⟩
/-- addresses, layouts, array classes, what lies beside: a static row, five texts -/
abbrev pq_g : Type := (Nat → Nat) × va_G × (Nat → ClassId) × (Nat × (Nat → Nat) × (Nat → Nat))
def cellS (g : pq_g) (i : Nat → Int32) (j : Nat → Int64) (r : Nat → Option Nat) : List va_E := [.inr (10, [.ref (g.1 56), .ref (g.1 61), .ref (g.1 63), .ref (g.1 65), .ref (g.1 70), .ref (g.1 71), .ref (g.1 74), .ref (g.1 79), .ref (g.1 82)]),
  .inr (6, [.ref (g.1 57), .ref (g.1 58), .ref (g.1 59), .int (i 3), .int (i 4)]),
  .inl (g.2.2.1 2, 6, .inr (.inr (.inr (.inr (fun t => if t < 6 then some (g.1 t) else none))))),
  .inl (g.2.2.1 2, 6, .inr (.inr (.inr (.inr (fun t => if t < 6 then some (g.1 (6 + t)) else none))))),
  .inr (9, [.ref (g.1 60), .int (i 1)]),
  .inl (g.2.2.1 1, 190, .inr (.inl j)),
  .inr (3, [.ref (g.1 62), .int (i 1)]),
  .inl (g.2.2.1 0, 72, .inl i),
  .inr (2, [.ref (g.1 64), va_rf ((r 1).map g.1), .int (i 2), .int (i 3), .int (i 4)]),
  .inl (g.2.2.1 0, 3, .inl i),
  .inr (0, [.ref (g.1 66), .ref (g.1 67), .ref (g.1 68), .ref (g.1 69), .int (i 4), va_rf ((r 5).map g.1), .int (i 6)]),
  .inl (g.2.2.1 0, 9, .inl i),
  .inl (g.2.2.1 0, 9, .inl i),
  .inl (g.2.2.1 0, 9, .inl i),
  .inl (g.2.2.1 0, 9, .inl i),
  .inr (7, [.int (i 0), .int (i 1), .int (i 2)]),
  .inr (5, [.ref (g.1 72), .ref (g.1 73), .int (i 2), .int (i 3)]),
  .inl (g.2.2.1 4, 28, .inr (.inr (.inr (.inr (fun t => (r t).map g.1))))),
  .inl (g.2.2.1 0, 3, .inl i),
  .inr (8, [.int (i 0), .ref (g.1 75), .ref (g.1 76), .ref (g.1 77), .ref (g.1 78), .int (i 5)]),
  .inl (g.2.2.1 0, 16, .inl i),
  .inl (g.2.2.1 0, 16, .inl i),
  .inl (g.2.2.1 0, 16, .inl i),
  .inl (g.2.2.1 0, 16, .inl i),
  .inr (4, [.ref (g.1 80), .ref (g.1 81)]),
  .inl (g.2.2.1 3, 3, .inr (.inr (.inr (.inr (fun t => if t < 3 then some (g.1 (52 + t)) else none))))),
  .inl (g.2.2.1 0, 3, .inl i),
  .inl (g.2.2.1 0, 7, .inl i)]
def cellC (g : pq_g) : pq_C := fun p i j r => if p < 12 then .inr (1, [.ref (g.1 (p + 12)), .int (i 1), .int (i 2), .int (i 3)]) else if p < 24 then .inl (g.2.2.1 0, 28, .inl i) else if p < 52 then .inl (g.2.2.1 1, 4, .inr (.inl j)) else if p < 55 then .inl (g.2.2.1 0, 40, .inl i) else (cellS g i j r).getD (p - 55) (.inr (0, []))
def cellM (g : pq_g) : pq_C := fun p i j r => ([.inr (11, [.ref (g.1 1), .ref (g.1 2), .ref (g.1 3), .ref (g.1 4), .ref (g.1 5), .int (i 5), .ref (g.1 6), .ref (g.1 7), .int (i 8), .ref (g.1 8), .ref (g.1 9), .int (i 11), .int (i 12), .ref (g.1 10), .ref (g.1 11), .ref (g.1 12), .ref (g.1 13), .ref (g.1 14), .int (i 18), .ref (g.1 15), .ref (g.1 16), .int (i 21), .int (i 22), .int (i 23), .int (i 24), .int (i 25), .int (i 26), .int (i 27), .long (j 28), .ref (g.1 17), .ref (g.1 18), .int (i 31), .int (i 32), .int (i 33), .int (i 34), .ref (g.1 19), .int (i 36), .int (i 37), .ref (g.1 20), .ref (g.1 21), .ref (g.1 22), .int (i 41), .int (i 42), .int (i 43)]),
  .inl (g.2.2.1 0, 7, .inl i),
  .inl (g.2.2.1 0, 168, .inl i),
  .inl (g.2.2.1 0, 6, .inl i),
  .inl (g.2.2.1 0, 6, .inl i),
  .inl (g.2.2.1 0, 6, .inl i),
  .inl (g.2.2.1 0, 16, .inl i),
  .inl (g.2.2.1 0, 16, .inl i),
  .inl (g.2.2.1 1, 28, .inr (.inl j)),
  .inl (g.2.2.1 0, 72, .inl i),
  .inl (g.2.2.1 0, 3, .inl i),
  .inl (g.2.2.1 0, 16, .inl i),
  .inl (g.2.2.1 0, 16, .inl i),
  .inl (g.2.2.1 0, 16, .inl i),
  .inl (g.2.2.1 0, 16, .inl i),
  .inl (g.2.2.1 1, 190, .inr (.inl j)),
  .inl (g.2.2.1 1, 190, .inr (.inl j)),
  .inl (g.2.2.1 0, 112, .inl i),
  .inl (g.2.2.1 0, 3, .inl i),
  .inl (g.2.2.1 0, 500, .inl i),
  .inl (g.2.2.1 0, 3, .inl i),
  .inl (g.2.2.1 0, 120, .inl i),
  .inl (g.2.2.1 0, 190, .inl i)] : List va_E).getD p (.inr (0, []))
abbrev pq_tys (g : pq_g) : List (ClassId × FieldType) := [(g.2.2.1 0, .int), (g.2.2.1 1, .long), (g.2.2.1 2, .object "FormsAboveNought$Form"), (g.2.2.1 3, .array .int), (g.2.2.1 4, .array .long)]
def kA : Nat → Int32 := fun k => ([-1, 0, 0, 0, 1, 2] : List Int32).getD k 0
def txL : List Nat := [3, 5, 4, 5, 4]
def txB : List (List Int32) := [[115, 117, 109], [116, 105, 109, 101, 115], [108, 105, 102, 116], [109, 105, 110, 117, 115], [115, 105, 100, 101]]
-- texts: [('FormsAboveNought.ActReader', 73, 'sum'), ('FormsAboveNought.ActReader', 75, 'times'), ('FormsAboveNought.ActReader', 77, 'lift'), ('FormsAboveNought.ActReader', 79, 'minus'), ('FormsAboveNought.ActReader', 81, 'side')]
def nestL : List (String × Nat × MethodName × String) := [(RX1, 25, yX10_termOf, "FormsAboveNought"), (RX1, 29, yX10_behindA, "FormsAboveNought"), (RX1, 37, yX10_termsOf, "FormsAboveNought"), (RX2, 59, yX10_termOf, "FormsAboveNought"), (RX3, 19, yX10_notBelow, "FormsAboveNought"), (RX4, 30, yX10_fails, "FormsAboveNought"), (RX5, 32, yX10_termsOf, "FormsAboveNought"), (RX5, 68, yX10_partOf, "FormsAboveNought"), (RX6, 35, yX10_notBelow, "FormsAboveNought"), (RX6, 46, yX10_termsOf, "FormsAboveNought"), (RX6, 107, yX10_isSide, "FormsAboveNought"), (RX6, 138, yX10_termOf, "FormsAboveNought"), (RX9, 19, yX10_termsOf, "FormsAboveNought"), (RX9, 30, yX10_placesOn, "FormsAboveNought"), (RX9, 34, yX10_numberOn, "FormsAboveNought"), (RX9, 44, yX10_termOf, "FormsAboveNought"), (RX9, 51, yX10_fails, "FormsAboveNought"), (RX9, 58, yX10_behindA, "FormsAboveNought")]
/-- what lies beside the class's cells: the row of kinds above, the five words, String's own switch -/
def envC (g : pq_g) : (Nat → Prop) → State → Heap → Prop := fun A U H => va_Z "FormsAboveNought" "KIND_ABOVE" "[I" (.ref g.2.2.2.1) A U H ∧ va_T .int g.2.2.2.1 6 (fun k => .int (kA k)) A U H ∧ va_Z "java/lang/String" "COMPACT_STRINGS" "Z" (.int 1) A U H ∧ vk_S 5 txL txB g.2.2.2.2.1 g.2.2.2.2.2 A U H ∧ (∀ q ∈ nestL, va_Nw (Cond.methodLinkNest q.1 q.2.1 q.2.2.1 q.2.2.2) U) ∧ (∃ kA kv : Class, U.vm.classes[g.2.2.1 4]? = some kA ∧ kA.kind = .array (g.2.2.1 1) (.array .long) ∧ U.vm.classes[g.2.2.1 1]? = some kv) ∧ va_Zq "jdk/internal/util/Preconditions" "SIOOBE_FORMATTER" "Ljava/util/function/BiFunction;" A U H ∧ vk_R RX0 73 "sum" (g.2.2.2.2.1 0) U ∧ vk_R RX0 75 "times" (g.2.2.2.2.1 1) U ∧ vk_R RX0 77 "lift" (g.2.2.2.2.1 2) U ∧ vk_R RX0 79 "minus" (g.2.2.2.2.1 3) U ∧ vk_R RX0 81 "side" (g.2.2.2.2.1 4) U
def SC (g : pq_g) : pq_S := ((83, g.1, cellC g), (g.2.1, vwCl, pq_tys g), envC g)
def SM (g : pq_g) : pq_S := ((23, g.1, cellM g), (g.2.1, vwCl, pq_tys g), fun _ _ _ => True)
set_option maxRecDepth 8000 in
theorem envC_kind {g : pq_g} {A : Nat → Prop} {U : State} {H : Heap} (h : (SC g).2.2 A U H) : va_Z "FormsAboveNought" "KIND_ABOVE" "[I" (.ref g.2.2.2.1) A U H := (show envC g A U H from h).1
set_option maxRecDepth 8000 in
theorem envC_row {g : pq_g} {A : Nat → Prop} {U : State} {H : Heap} (h : (SC g).2.2 A U H) : va_T .int g.2.2.2.1 6 (fun k => .int (kA k)) A U H := (show envC g A U H from h).2.1
set_option maxRecDepth 8000 in
theorem envC_comp {g : pq_g} {A : Nat → Prop} {U : State} {H : Heap} (h : (SC g).2.2 A U H) : va_Z "java/lang/String" "COMPACT_STRINGS" "Z" (.int 1) A U H := (show envC g A U H from h).2.2.1
set_option maxRecDepth 8000 in
theorem envC_str {g : pq_g} {A : Nat → Prop} {U : State} {H : Heap} (h : (SC g).2.2 A U H) : vk_S 5 txL txB g.2.2.2.2.1 g.2.2.2.2.2 A U H := (show envC g A U H from h).2.2.2.1
set_option maxRecDepth 8000 in
theorem envC_jj {g : pq_g} {A : Nat → Prop} {U : State} {H : Heap} (h : (SC g).2.2 A U H) : ∃ kA kv : Class, U.vm.classes[g.2.2.1 4]? = some kA ∧ kA.kind = .array (g.2.2.1 1) (.array .long) ∧ U.vm.classes[g.2.2.1 1]? = some kv := (show envC g A U H from h).2.2.2.2.2.1
set_option maxRecDepth 8000 in
theorem envC_sio {g : pq_g} {A : Nat → Prop} {U : State} {H : Heap} (h : (SC g).2.2 A U H) : va_Zq "jdk/internal/util/Preconditions" "SIOOBE_FORMATTER" "Ljava/util/function/BiFunction;" A U H := (show envC g A U H from h).2.2.2.2.2.2.1
set_option maxRecDepth 8000 in
theorem envC_t0 {g : pq_g} {A : Nat → Prop} {U : State} {H : Heap} (h : (SC g).2.2 A U H) : vk_R RX0 73 "sum" (g.2.2.2.2.1 0) U := (show envC g A U H from h).2.2.2.2.2.2.2.1
set_option maxRecDepth 8000 in
theorem envC_t1 {g : pq_g} {A : Nat → Prop} {U : State} {H : Heap} (h : (SC g).2.2 A U H) : vk_R RX0 75 "times" (g.2.2.2.2.1 1) U := (show envC g A U H from h).2.2.2.2.2.2.2.2.1
set_option maxRecDepth 8000 in
theorem envC_t2 {g : pq_g} {A : Nat → Prop} {U : State} {H : Heap} (h : (SC g).2.2 A U H) : vk_R RX0 77 "lift" (g.2.2.2.2.1 2) U := (show envC g A U H from h).2.2.2.2.2.2.2.2.2.1
set_option maxRecDepth 8000 in
theorem envC_t3 {g : pq_g} {A : Nat → Prop} {U : State} {H : Heap} (h : (SC g).2.2 A U H) : vk_R RX0 79 "minus" (g.2.2.2.2.1 3) U := (show envC g A U H from h).2.2.2.2.2.2.2.2.2.2.1
set_option maxRecDepth 8000 in
theorem envC_t4 {g : pq_g} {A : Nat → Prop} {U : State} {H : Heap} (h : (SC g).2.2 A U H) : vk_R RX0 81 "side" (g.2.2.2.2.1 4) U := (show envC g A U H from h).2.2.2.2.2.2.2.2.2.2.2
set_option maxRecDepth 8000 in
theorem envC_nest {g : pq_g} {A : Nat → Prop} {U : State} {H : Heap} (h : (SC g).2.2 A U H) : ∀ q ∈ nestL, va_Nw (Cond.methodLinkNest q.1 q.2.1 q.2.2.1 q.2.2.2) U := (show envC g A U H from h).2.2.2.2.1
set_option maxRecDepth 8000 in
theorem nk_X1_25 (g : pq_g) : ∀ A U H, (SC g).2.2 A U H → va_Nw (Cond.methodLinkNest RX1 25 yX10_termOf "FormsAboveNought") U := fun _ _ _ h => envC_nest h (RX1, 25, yX10_termOf, "FormsAboveNought") (List.mem_of_getElem? (i := 0) rfl)
set_option maxRecDepth 8000 in
theorem nk_X1_29 (g : pq_g) : ∀ A U H, (SC g).2.2 A U H → va_Nw (Cond.methodLinkNest RX1 29 yX10_behindA "FormsAboveNought") U := fun _ _ _ h => envC_nest h (RX1, 29, yX10_behindA, "FormsAboveNought") (List.mem_of_getElem? (i := 1) rfl)
set_option maxRecDepth 8000 in
theorem nk_X1_37 (g : pq_g) : ∀ A U H, (SC g).2.2 A U H → va_Nw (Cond.methodLinkNest RX1 37 yX10_termsOf "FormsAboveNought") U := fun _ _ _ h => envC_nest h (RX1, 37, yX10_termsOf, "FormsAboveNought") (List.mem_of_getElem? (i := 2) rfl)
set_option maxRecDepth 8000 in
theorem nk_X2_59 (g : pq_g) : ∀ A U H, (SC g).2.2 A U H → va_Nw (Cond.methodLinkNest RX2 59 yX10_termOf "FormsAboveNought") U := fun _ _ _ h => envC_nest h (RX2, 59, yX10_termOf, "FormsAboveNought") (List.mem_of_getElem? (i := 3) rfl)
set_option maxRecDepth 8000 in
theorem nk_X3_19 (g : pq_g) : ∀ A U H, (SC g).2.2 A U H → va_Nw (Cond.methodLinkNest RX3 19 yX10_notBelow "FormsAboveNought") U := fun _ _ _ h => envC_nest h (RX3, 19, yX10_notBelow, "FormsAboveNought") (List.mem_of_getElem? (i := 4) rfl)
set_option maxRecDepth 8000 in
theorem nk_X4_30 (g : pq_g) : ∀ A U H, (SC g).2.2 A U H → va_Nw (Cond.methodLinkNest RX4 30 yX10_fails "FormsAboveNought") U := fun _ _ _ h => envC_nest h (RX4, 30, yX10_fails, "FormsAboveNought") (List.mem_of_getElem? (i := 5) rfl)
set_option maxRecDepth 8000 in
theorem nk_X5_32 (g : pq_g) : ∀ A U H, (SC g).2.2 A U H → va_Nw (Cond.methodLinkNest RX5 32 yX10_termsOf "FormsAboveNought") U := fun _ _ _ h => envC_nest h (RX5, 32, yX10_termsOf, "FormsAboveNought") (List.mem_of_getElem? (i := 6) rfl)
set_option maxRecDepth 8000 in
theorem nk_X5_68 (g : pq_g) : ∀ A U H, (SC g).2.2 A U H → va_Nw (Cond.methodLinkNest RX5 68 yX10_partOf "FormsAboveNought") U := fun _ _ _ h => envC_nest h (RX5, 68, yX10_partOf, "FormsAboveNought") (List.mem_of_getElem? (i := 7) rfl)
set_option maxRecDepth 8000 in
theorem nk_X6_35 (g : pq_g) : ∀ A U H, (SC g).2.2 A U H → va_Nw (Cond.methodLinkNest RX6 35 yX10_notBelow "FormsAboveNought") U := fun _ _ _ h => envC_nest h (RX6, 35, yX10_notBelow, "FormsAboveNought") (List.mem_of_getElem? (i := 8) rfl)
set_option maxRecDepth 8000 in
theorem nk_X6_46 (g : pq_g) : ∀ A U H, (SC g).2.2 A U H → va_Nw (Cond.methodLinkNest RX6 46 yX10_termsOf "FormsAboveNought") U := fun _ _ _ h => envC_nest h (RX6, 46, yX10_termsOf, "FormsAboveNought") (List.mem_of_getElem? (i := 9) rfl)
set_option maxRecDepth 8000 in
theorem nk_X6_107 (g : pq_g) : ∀ A U H, (SC g).2.2 A U H → va_Nw (Cond.methodLinkNest RX6 107 yX10_isSide "FormsAboveNought") U := fun _ _ _ h => envC_nest h (RX6, 107, yX10_isSide, "FormsAboveNought") (List.mem_of_getElem? (i := 10) rfl)
set_option maxRecDepth 8000 in
theorem nk_X6_138 (g : pq_g) : ∀ A U H, (SC g).2.2 A U H → va_Nw (Cond.methodLinkNest RX6 138 yX10_termOf "FormsAboveNought") U := fun _ _ _ h => envC_nest h (RX6, 138, yX10_termOf, "FormsAboveNought") (List.mem_of_getElem? (i := 11) rfl)
set_option maxRecDepth 8000 in
theorem nk_X9_19 (g : pq_g) : ∀ A U H, (SC g).2.2 A U H → va_Nw (Cond.methodLinkNest RX9 19 yX10_termsOf "FormsAboveNought") U := fun _ _ _ h => envC_nest h (RX9, 19, yX10_termsOf, "FormsAboveNought") (List.mem_of_getElem? (i := 12) rfl)
set_option maxRecDepth 8000 in
theorem nk_X9_30 (g : pq_g) : ∀ A U H, (SC g).2.2 A U H → va_Nw (Cond.methodLinkNest RX9 30 yX10_placesOn "FormsAboveNought") U := fun _ _ _ h => envC_nest h (RX9, 30, yX10_placesOn, "FormsAboveNought") (List.mem_of_getElem? (i := 13) rfl)
set_option maxRecDepth 8000 in
theorem nk_X9_34 (g : pq_g) : ∀ A U H, (SC g).2.2 A U H → va_Nw (Cond.methodLinkNest RX9 34 yX10_numberOn "FormsAboveNought") U := fun _ _ _ h => envC_nest h (RX9, 34, yX10_numberOn, "FormsAboveNought") (List.mem_of_getElem? (i := 14) rfl)
set_option maxRecDepth 8000 in
theorem nk_X9_44 (g : pq_g) : ∀ A U H, (SC g).2.2 A U H → va_Nw (Cond.methodLinkNest RX9 44 yX10_termOf "FormsAboveNought") U := fun _ _ _ h => envC_nest h (RX9, 44, yX10_termOf, "FormsAboveNought") (List.mem_of_getElem? (i := 15) rfl)
set_option maxRecDepth 8000 in
theorem nk_X9_51 (g : pq_g) : ∀ A U H, (SC g).2.2 A U H → va_Nw (Cond.methodLinkNest RX9 51 yX10_fails "FormsAboveNought") U := fun _ _ _ h => envC_nest h (RX9, 51, yX10_fails, "FormsAboveNought") (List.mem_of_getElem? (i := 16) rfl)
set_option maxRecDepth 8000 in
theorem nk_X9_58 (g : pq_g) : ∀ A U H, (SC g).2.2 A U H → va_Nw (Cond.methodLinkNest RX9 58 yX10_behindA "FormsAboveNought") U := fun _ _ _ h => envC_nest h (RX9, 58, yX10_behindA, "FormsAboveNought") (List.mem_of_getElem? (i := 17) rfl)
set_option maxRecDepth 8000 in
theorem cC_form (g : pq_g) {f : Nat} (hf : f < 12) (i : Nat → Int32) (j : Nat → Int64) (r : Nat → Option Nat) : (SC g).1.2.2 f i j r = .inr (1, [.ref (g.1 (f + 12)), .int (i 1), .int (i 2), .int (i 3)]) := if_pos hf
set_option maxRecDepth 8000 in
theorem cC_told (g : pq_g) {f : Nat} (hf : f < 12) (i : Nat → Int32) (j : Nat → Int64) (r : Nat → Option Nat) : (SC g).1.2.2 (f + 12) i j r = .inl (g.2.2.1 0, 28, .inl i) := by
  show cellC g (f + 12) i j r = _
  unfold cellC
  rw [if_neg (by omega), if_pos (by omega)]
set_option maxRecDepth 8000 in
theorem cC_mrow (g : pq_g) {q : Nat} (h1 : 24 ≤ q) (h2 : q < 52) (i : Nat → Int32) (j : Nat → Int64) (r : Nat → Option Nat) : (SC g).1.2.2 q i j r = .inl (g.2.2.1 1, 4, .inr (.inl j)) := by
  show cellC g q i j r = _
  unfold cellC
  rw [if_neg (by omega), if_neg (by omega), if_pos h2]
set_option maxRecDepth 8000 in
theorem cC_lrow (g : pq_g) {q : Nat} (h1 : q < 3) (i : Nat → Int32) (j : Nat → Int64) (r : Nat → Option Nat) : (SC g).1.2.2 (52 + q) i j r = .inl (g.2.2.1 0, 40, .inl i) := by
  show cellC g (52 + q) i j r = _
  unfold cellC
  rw [if_neg (by omega), if_neg (by omega), if_neg (by omega), if_pos (by omega)]
set_option maxRecDepth 8000 in
theorem o_Form (g : pq_g) (f : Nat) (hf : f < 12) : pq_o (SC g) f 1 RX1 := ⟨(show f < 83 by omega), ⟨_, fun i j r => cC_form g hf i j r⟩, TX1, 4, rfl⟩
set_option maxRecDepth 8000 in
theorem cI_Form_1 (g : pq_g) (f : Nat) (hf : f < 12) : pq_cI (SC g) f 1 1 := ⟨(show f < 83 by omega), _, fun i j r => cC_form g hf i j r, fun _ _ _ => rfl, fun _ _ _ _ => rfl⟩
set_option maxRecDepth 8000 in
theorem cI_Form_2 (g : pq_g) (f : Nat) (hf : f < 12) : pq_cI (SC g) f 1 2 := ⟨(show f < 83 by omega), _, fun i j r => cC_form g hf i j r, fun _ _ _ => rfl, fun _ _ _ _ => rfl⟩
set_option maxRecDepth 8000 in
theorem cI_Form_3 (g : pq_g) (f : Nat) (hf : f < 12) : pq_cI (SC g) f 1 3 := ⟨(show f < 83 by omega), _, fun i j r => cC_form g hf i j r, fun _ _ _ => rfl, fun _ _ _ _ => rfl⟩
set_option maxRecDepth 8000 in
theorem cA_Form_0 (g : pq_g) (f : Nat) (hf : f < 12) : pq_cA (SC g) f 1 0 (f + 12) := ⟨(show f < 83 by omega), _, fun i j r => cC_form g hf i j r, fun _ _ _ => rfl⟩
set_option maxRecDepth 8000 in
theorem aI_told (g : pq_g) (f : Nat) (hf : f < 12) : pq_aI (SC g) (f + 12) 28 := ⟨(show f + 12 < 83 by omega), g.2.2.1 0, 0, fun i j r => cC_told g hf i j r, rfl⟩
set_option maxRecDepth 8000 in
theorem aJ_mrow (g : pq_g) (q : Nat) (h1 : 24 ≤ q) (h2 : q < 52) : pq_aJ (SC g) q 4 := ⟨(show q < 83 by omega), g.2.2.1 1, 1, fun i j r => cC_mrow g h1 h2 i j r, rfl⟩
set_option maxRecDepth 8000 in
theorem aI_lrow (g : pq_g) (q : Nat) (h1 : q < 3) : pq_aI (SC g) (52 + q) 40 := ⟨(show 52 + q < 83 by omega), g.2.2.1 0, 0, fun i j r => cC_lrow g h1 i j r, rfl⟩
set_option maxRecDepth 8000 in
theorem oC_55 (g : pq_g) : pq_o (SC g) 55 10 RX10 := ⟨(show 55 < 83 by decide), ⟨_, fun i j r => rfl⟩, TX10, 9, rfl⟩
set_option maxRecDepth 8000 in
theorem cCA_55_0 (g : pq_g) : pq_cA (SC g) 55 10 0 56 := ⟨(show 55 < 83 by decide), _, fun i j r => rfl, fun _ _ _ => rfl⟩
set_option maxRecDepth 8000 in
theorem cCA_55_1 (g : pq_g) : pq_cA (SC g) 55 10 1 61 := ⟨(show 55 < 83 by decide), _, fun i j r => rfl, fun _ _ _ => rfl⟩
set_option maxRecDepth 8000 in
theorem cCA_55_2 (g : pq_g) : pq_cA (SC g) 55 10 2 63 := ⟨(show 55 < 83 by decide), _, fun i j r => rfl, fun _ _ _ => rfl⟩
set_option maxRecDepth 8000 in
theorem cCA_55_3 (g : pq_g) : pq_cA (SC g) 55 10 3 65 := ⟨(show 55 < 83 by decide), _, fun i j r => rfl, fun _ _ _ => rfl⟩
set_option maxRecDepth 8000 in
theorem cCA_55_4 (g : pq_g) : pq_cA (SC g) 55 10 4 70 := ⟨(show 55 < 83 by decide), _, fun i j r => rfl, fun _ _ _ => rfl⟩
set_option maxRecDepth 8000 in
theorem cCA_55_5 (g : pq_g) : pq_cA (SC g) 55 10 5 71 := ⟨(show 55 < 83 by decide), _, fun i j r => rfl, fun _ _ _ => rfl⟩
set_option maxRecDepth 8000 in
theorem cCA_55_6 (g : pq_g) : pq_cA (SC g) 55 10 6 74 := ⟨(show 55 < 83 by decide), _, fun i j r => rfl, fun _ _ _ => rfl⟩
set_option maxRecDepth 8000 in
theorem cCA_55_7 (g : pq_g) : pq_cA (SC g) 55 10 7 79 := ⟨(show 55 < 83 by decide), _, fun i j r => rfl, fun _ _ _ => rfl⟩
set_option maxRecDepth 8000 in
theorem cCA_55_8 (g : pq_g) : pq_cA (SC g) 55 10 8 82 := ⟨(show 55 < 83 by decide), _, fun i j r => rfl, fun _ _ _ => rfl⟩
set_option maxRecDepth 8000 in
theorem oC_56 (g : pq_g) : pq_o (SC g) 56 6 RX6 := ⟨(show 56 < 83 by decide), ⟨_, fun i j r => rfl⟩, TX6, 5, rfl⟩
set_option maxRecDepth 8000 in
theorem cCA_56_0 (g : pq_g) : pq_cA (SC g) 56 6 0 57 := ⟨(show 56 < 83 by decide), _, fun i j r => rfl, fun _ _ _ => rfl⟩
set_option maxRecDepth 8000 in
theorem cCA_56_1 (g : pq_g) : pq_cA (SC g) 56 6 1 58 := ⟨(show 56 < 83 by decide), _, fun i j r => rfl, fun _ _ _ => rfl⟩
set_option maxRecDepth 8000 in
theorem cCA_56_2 (g : pq_g) : pq_cA (SC g) 56 6 2 59 := ⟨(show 56 < 83 by decide), _, fun i j r => rfl, fun _ _ _ => rfl⟩
set_option maxRecDepth 8000 in
theorem cCI_56_3 (g : pq_g) : pq_cI (SC g) 56 6 3 := ⟨(show 56 < 83 by decide), _, fun i j r => rfl, fun _ _ _ => rfl, fun _ _ _ _ => rfl⟩
set_option maxRecDepth 8000 in
theorem cCI_56_4 (g : pq_g) : pq_cI (SC g) 56 6 4 := ⟨(show 56 < 83 by decide), _, fun i j r => rfl, fun _ _ _ => rfl, fun _ _ _ _ => rfl⟩
set_option maxRecDepth 8000 in
theorem oC_59 (g : pq_g) : pq_o (SC g) 59 9 RX9 := ⟨(show 59 < 83 by decide), ⟨_, fun i j r => rfl⟩, TX9, 2, rfl⟩
set_option maxRecDepth 8000 in
theorem cCA_59_0 (g : pq_g) : pq_cA (SC g) 59 9 0 60 := ⟨(show 59 < 83 by decide), _, fun i j r => rfl, fun _ _ _ => rfl⟩
set_option maxRecDepth 8000 in
theorem cCI_59_1 (g : pq_g) : pq_cI (SC g) 59 9 1 := ⟨(show 59 < 83 by decide), _, fun i j r => rfl, fun _ _ _ => rfl, fun _ _ _ _ => rfl⟩
set_option maxRecDepth 8000 in
theorem oC_61 (g : pq_g) : pq_o (SC g) 61 3 RX3 := ⟨(show 61 < 83 by decide), ⟨_, fun i j r => rfl⟩, TX3, 2, rfl⟩
set_option maxRecDepth 8000 in
theorem cCA_61_0 (g : pq_g) : pq_cA (SC g) 61 3 0 62 := ⟨(show 61 < 83 by decide), _, fun i j r => rfl, fun _ _ _ => rfl⟩
set_option maxRecDepth 8000 in
theorem cCI_61_1 (g : pq_g) : pq_cI (SC g) 61 3 1 := ⟨(show 61 < 83 by decide), _, fun i j r => rfl, fun _ _ _ => rfl, fun _ _ _ _ => rfl⟩
set_option maxRecDepth 8000 in
theorem oC_63 (g : pq_g) : pq_o (SC g) 63 2 RX2 := ⟨(show 63 < 83 by decide), ⟨_, fun i j r => rfl⟩, TX2, 5, rfl⟩
set_option maxRecDepth 8000 in
theorem cCA_63_0 (g : pq_g) : pq_cA (SC g) 63 2 0 64 := ⟨(show 63 < 83 by decide), _, fun i j r => rfl, fun _ _ _ => rfl⟩
set_option maxRecDepth 8000 in
theorem cCR_63_1 (g : pq_g) : pq_cR (SC g) 63 2 1 := ⟨(show 63 < 83 by decide), _, fun i j r => rfl, fun _ _ _ => rfl, fun _ _ _ _ => rfl⟩
set_option maxRecDepth 8000 in
theorem cCI_63_2 (g : pq_g) : pq_cI (SC g) 63 2 2 := ⟨(show 63 < 83 by decide), _, fun i j r => rfl, fun _ _ _ => rfl, fun _ _ _ _ => rfl⟩
set_option maxRecDepth 8000 in
theorem cCI_63_3 (g : pq_g) : pq_cI (SC g) 63 2 3 := ⟨(show 63 < 83 by decide), _, fun i j r => rfl, fun _ _ _ => rfl, fun _ _ _ _ => rfl⟩
set_option maxRecDepth 8000 in
theorem cCI_63_4 (g : pq_g) : pq_cI (SC g) 63 2 4 := ⟨(show 63 < 83 by decide), _, fun i j r => rfl, fun _ _ _ => rfl, fun _ _ _ _ => rfl⟩
set_option maxRecDepth 8000 in
theorem oC_65 (g : pq_g) : pq_o (SC g) 65 0 RX0 := ⟨(show 65 < 83 by decide), ⟨_, fun i j r => rfl⟩, TX0, 7, rfl⟩
set_option maxRecDepth 8000 in
theorem cCA_65_0 (g : pq_g) : pq_cA (SC g) 65 0 0 66 := ⟨(show 65 < 83 by decide), _, fun i j r => rfl, fun _ _ _ => rfl⟩
set_option maxRecDepth 8000 in
theorem cCA_65_1 (g : pq_g) : pq_cA (SC g) 65 0 1 67 := ⟨(show 65 < 83 by decide), _, fun i j r => rfl, fun _ _ _ => rfl⟩
set_option maxRecDepth 8000 in
theorem cCA_65_2 (g : pq_g) : pq_cA (SC g) 65 0 2 68 := ⟨(show 65 < 83 by decide), _, fun i j r => rfl, fun _ _ _ => rfl⟩
set_option maxRecDepth 8000 in
theorem cCA_65_3 (g : pq_g) : pq_cA (SC g) 65 0 3 69 := ⟨(show 65 < 83 by decide), _, fun i j r => rfl, fun _ _ _ => rfl⟩
set_option maxRecDepth 8000 in
theorem cCI_65_4 (g : pq_g) : pq_cI (SC g) 65 0 4 := ⟨(show 65 < 83 by decide), _, fun i j r => rfl, fun _ _ _ => rfl, fun _ _ _ _ => rfl⟩
set_option maxRecDepth 8000 in
theorem cCR_65_5 (g : pq_g) : pq_cR (SC g) 65 0 5 := ⟨(show 65 < 83 by decide), _, fun i j r => rfl, fun _ _ _ => rfl, fun _ _ _ _ => rfl⟩
set_option maxRecDepth 8000 in
theorem cCI_65_6 (g : pq_g) : pq_cI (SC g) 65 0 6 := ⟨(show 65 < 83 by decide), _, fun i j r => rfl, fun _ _ _ => rfl, fun _ _ _ _ => rfl⟩
set_option maxRecDepth 8000 in
theorem oC_70 (g : pq_g) : pq_o (SC g) 70 7 RX7 := ⟨(show 70 < 83 by decide), ⟨_, fun i j r => rfl⟩, TX7, 3, rfl⟩
set_option maxRecDepth 8000 in
theorem cCI_70_0 (g : pq_g) : pq_cI (SC g) 70 7 0 := ⟨(show 70 < 83 by decide), _, fun i j r => rfl, fun _ _ _ => rfl, fun _ _ _ _ => rfl⟩
set_option maxRecDepth 8000 in
theorem cCI_70_1 (g : pq_g) : pq_cI (SC g) 70 7 1 := ⟨(show 70 < 83 by decide), _, fun i j r => rfl, fun _ _ _ => rfl, fun _ _ _ _ => rfl⟩
set_option maxRecDepth 8000 in
theorem cCI_70_2 (g : pq_g) : pq_cI (SC g) 70 7 2 := ⟨(show 70 < 83 by decide), _, fun i j r => rfl, fun _ _ _ => rfl, fun _ _ _ _ => rfl⟩
set_option maxRecDepth 8000 in
theorem oC_71 (g : pq_g) : pq_o (SC g) 71 5 RX5 := ⟨(show 71 < 83 by decide), ⟨_, fun i j r => rfl⟩, TX5, 4, rfl⟩
set_option maxRecDepth 8000 in
theorem cCA_71_0 (g : pq_g) : pq_cA (SC g) 71 5 0 72 := ⟨(show 71 < 83 by decide), _, fun i j r => rfl, fun _ _ _ => rfl⟩
set_option maxRecDepth 8000 in
theorem cCA_71_1 (g : pq_g) : pq_cA (SC g) 71 5 1 73 := ⟨(show 71 < 83 by decide), _, fun i j r => rfl, fun _ _ _ => rfl⟩
set_option maxRecDepth 8000 in
theorem cCI_71_2 (g : pq_g) : pq_cI (SC g) 71 5 2 := ⟨(show 71 < 83 by decide), _, fun i j r => rfl, fun _ _ _ => rfl, fun _ _ _ _ => rfl⟩
set_option maxRecDepth 8000 in
theorem cCI_71_3 (g : pq_g) : pq_cI (SC g) 71 5 3 := ⟨(show 71 < 83 by decide), _, fun i j r => rfl, fun _ _ _ => rfl, fun _ _ _ _ => rfl⟩
set_option maxRecDepth 8000 in
theorem oC_74 (g : pq_g) : pq_o (SC g) 74 8 RX8 := ⟨(show 74 < 83 by decide), ⟨_, fun i j r => rfl⟩, TX8, 6, rfl⟩
set_option maxRecDepth 8000 in
theorem cCI_74_0 (g : pq_g) : pq_cI (SC g) 74 8 0 := ⟨(show 74 < 83 by decide), _, fun i j r => rfl, fun _ _ _ => rfl, fun _ _ _ _ => rfl⟩
set_option maxRecDepth 8000 in
theorem cCA_74_1 (g : pq_g) : pq_cA (SC g) 74 8 1 75 := ⟨(show 74 < 83 by decide), _, fun i j r => rfl, fun _ _ _ => rfl⟩
set_option maxRecDepth 8000 in
theorem cCA_74_2 (g : pq_g) : pq_cA (SC g) 74 8 2 76 := ⟨(show 74 < 83 by decide), _, fun i j r => rfl, fun _ _ _ => rfl⟩
set_option maxRecDepth 8000 in
theorem cCA_74_3 (g : pq_g) : pq_cA (SC g) 74 8 3 77 := ⟨(show 74 < 83 by decide), _, fun i j r => rfl, fun _ _ _ => rfl⟩
set_option maxRecDepth 8000 in
theorem cCA_74_4 (g : pq_g) : pq_cA (SC g) 74 8 4 78 := ⟨(show 74 < 83 by decide), _, fun i j r => rfl, fun _ _ _ => rfl⟩
set_option maxRecDepth 8000 in
theorem cCI_74_5 (g : pq_g) : pq_cI (SC g) 74 8 5 := ⟨(show 74 < 83 by decide), _, fun i j r => rfl, fun _ _ _ => rfl, fun _ _ _ _ => rfl⟩
set_option maxRecDepth 8000 in
theorem oC_79 (g : pq_g) : pq_o (SC g) 79 4 RX4 := ⟨(show 79 < 83 by decide), ⟨_, fun i j r => rfl⟩, TX4, 2, rfl⟩
set_option maxRecDepth 8000 in
theorem cCA_79_0 (g : pq_g) : pq_cA (SC g) 79 4 0 80 := ⟨(show 79 < 83 by decide), _, fun i j r => rfl, fun _ _ _ => rfl⟩
set_option maxRecDepth 8000 in
theorem cCA_79_1 (g : pq_g) : pq_cA (SC g) 79 4 1 81 := ⟨(show 79 < 83 by decide), _, fun i j r => rfl, fun _ _ _ => rfl⟩
set_option maxRecDepth 8000 in
theorem aCJ_60 (g : pq_g) : pq_aJ (SC g) 60 190 := ⟨(show 60 < 83 by decide), g.2.2.1 1, 1, fun i j r => rfl, rfl⟩
set_option maxRecDepth 8000 in
theorem aCI_62 (g : pq_g) : pq_aI (SC g) 62 72 := ⟨(show 62 < 83 by decide), g.2.2.1 0, 0, fun i j r => rfl, rfl⟩
set_option maxRecDepth 8000 in
theorem aCI_64 (g : pq_g) : pq_aI (SC g) 64 3 := ⟨(show 64 < 83 by decide), g.2.2.1 0, 0, fun i j r => rfl, rfl⟩
set_option maxRecDepth 8000 in
theorem aCI_66 (g : pq_g) : pq_aI (SC g) 66 9 := ⟨(show 66 < 83 by decide), g.2.2.1 0, 0, fun i j r => rfl, rfl⟩
set_option maxRecDepth 8000 in
theorem aCI_67 (g : pq_g) : pq_aI (SC g) 67 9 := ⟨(show 67 < 83 by decide), g.2.2.1 0, 0, fun i j r => rfl, rfl⟩
set_option maxRecDepth 8000 in
theorem aCI_68 (g : pq_g) : pq_aI (SC g) 68 9 := ⟨(show 68 < 83 by decide), g.2.2.1 0, 0, fun i j r => rfl, rfl⟩
set_option maxRecDepth 8000 in
theorem aCI_69 (g : pq_g) : pq_aI (SC g) 69 9 := ⟨(show 69 < 83 by decide), g.2.2.1 0, 0, fun i j r => rfl, rfl⟩
set_option maxRecDepth 8000 in
theorem aCI_73 (g : pq_g) : pq_aI (SC g) 73 3 := ⟨(show 73 < 83 by decide), g.2.2.1 0, 0, fun i j r => rfl, rfl⟩
set_option maxRecDepth 8000 in
theorem aCI_75 (g : pq_g) : pq_aI (SC g) 75 16 := ⟨(show 75 < 83 by decide), g.2.2.1 0, 0, fun i j r => rfl, rfl⟩
set_option maxRecDepth 8000 in
theorem aCI_76 (g : pq_g) : pq_aI (SC g) 76 16 := ⟨(show 76 < 83 by decide), g.2.2.1 0, 0, fun i j r => rfl, rfl⟩
set_option maxRecDepth 8000 in
theorem aCI_77 (g : pq_g) : pq_aI (SC g) 77 16 := ⟨(show 77 < 83 by decide), g.2.2.1 0, 0, fun i j r => rfl, rfl⟩
set_option maxRecDepth 8000 in
theorem aCI_78 (g : pq_g) : pq_aI (SC g) 78 16 := ⟨(show 78 < 83 by decide), g.2.2.1 0, 0, fun i j r => rfl, rfl⟩
set_option maxRecDepth 8000 in
theorem aCI_81 (g : pq_g) : pq_aI (SC g) 81 3 := ⟨(show 81 < 83 by decide), g.2.2.1 0, 0, fun i j r => rfl, rfl⟩
set_option maxRecDepth 8000 in
theorem aCI_82 (g : pq_g) : pq_aI (SC g) 82 7 := ⟨(show 82 < 83 by decide), g.2.2.1 0, 0, fun i j r => rfl, rfl⟩
set_option maxRecDepth 8000 in
theorem oM_0 (g : pq_g) : pq_o (SM g) 0 11 RX11 := ⟨(show 0 < 23 by decide), ⟨_, fun i j r => rfl⟩, TX11, 44, rfl⟩
set_option maxRecDepth 8000 in
theorem cMA_0_0 (g : pq_g) : pq_cA (SM g) 0 11 0 1 := ⟨(show 0 < 23 by decide), _, fun i j r => rfl, fun _ _ _ => rfl⟩
set_option maxRecDepth 8000 in
theorem cMA_0_1 (g : pq_g) : pq_cA (SM g) 0 11 1 2 := ⟨(show 0 < 23 by decide), _, fun i j r => rfl, fun _ _ _ => rfl⟩
set_option maxRecDepth 8000 in
theorem cMA_0_2 (g : pq_g) : pq_cA (SM g) 0 11 2 3 := ⟨(show 0 < 23 by decide), _, fun i j r => rfl, fun _ _ _ => rfl⟩
set_option maxRecDepth 8000 in
theorem cMA_0_3 (g : pq_g) : pq_cA (SM g) 0 11 3 4 := ⟨(show 0 < 23 by decide), _, fun i j r => rfl, fun _ _ _ => rfl⟩
set_option maxRecDepth 8000 in
theorem cMA_0_4 (g : pq_g) : pq_cA (SM g) 0 11 4 5 := ⟨(show 0 < 23 by decide), _, fun i j r => rfl, fun _ _ _ => rfl⟩
set_option maxRecDepth 8000 in
theorem cMI_0_5 (g : pq_g) : pq_cI (SM g) 0 11 5 := ⟨(show 0 < 23 by decide), _, fun i j r => rfl, fun _ _ _ => rfl, fun _ _ _ _ => rfl⟩
set_option maxRecDepth 8000 in
theorem cMA_0_6 (g : pq_g) : pq_cA (SM g) 0 11 6 6 := ⟨(show 0 < 23 by decide), _, fun i j r => rfl, fun _ _ _ => rfl⟩
set_option maxRecDepth 8000 in
theorem cMA_0_7 (g : pq_g) : pq_cA (SM g) 0 11 7 7 := ⟨(show 0 < 23 by decide), _, fun i j r => rfl, fun _ _ _ => rfl⟩
set_option maxRecDepth 8000 in
theorem cMI_0_8 (g : pq_g) : pq_cI (SM g) 0 11 8 := ⟨(show 0 < 23 by decide), _, fun i j r => rfl, fun _ _ _ => rfl, fun _ _ _ _ => rfl⟩
set_option maxRecDepth 8000 in
theorem cMA_0_9 (g : pq_g) : pq_cA (SM g) 0 11 9 8 := ⟨(show 0 < 23 by decide), _, fun i j r => rfl, fun _ _ _ => rfl⟩
set_option maxRecDepth 8000 in
theorem cMA_0_10 (g : pq_g) : pq_cA (SM g) 0 11 10 9 := ⟨(show 0 < 23 by decide), _, fun i j r => rfl, fun _ _ _ => rfl⟩
set_option maxRecDepth 8000 in
theorem cMI_0_11 (g : pq_g) : pq_cI (SM g) 0 11 11 := ⟨(show 0 < 23 by decide), _, fun i j r => rfl, fun _ _ _ => rfl, fun _ _ _ _ => rfl⟩
set_option maxRecDepth 8000 in
theorem cMI_0_12 (g : pq_g) : pq_cI (SM g) 0 11 12 := ⟨(show 0 < 23 by decide), _, fun i j r => rfl, fun _ _ _ => rfl, fun _ _ _ _ => rfl⟩
set_option maxRecDepth 8000 in
theorem cMA_0_13 (g : pq_g) : pq_cA (SM g) 0 11 13 10 := ⟨(show 0 < 23 by decide), _, fun i j r => rfl, fun _ _ _ => rfl⟩
set_option maxRecDepth 8000 in
theorem cMA_0_14 (g : pq_g) : pq_cA (SM g) 0 11 14 11 := ⟨(show 0 < 23 by decide), _, fun i j r => rfl, fun _ _ _ => rfl⟩
set_option maxRecDepth 8000 in
theorem cMA_0_15 (g : pq_g) : pq_cA (SM g) 0 11 15 12 := ⟨(show 0 < 23 by decide), _, fun i j r => rfl, fun _ _ _ => rfl⟩
set_option maxRecDepth 8000 in
theorem cMA_0_16 (g : pq_g) : pq_cA (SM g) 0 11 16 13 := ⟨(show 0 < 23 by decide), _, fun i j r => rfl, fun _ _ _ => rfl⟩
set_option maxRecDepth 8000 in
theorem cMA_0_17 (g : pq_g) : pq_cA (SM g) 0 11 17 14 := ⟨(show 0 < 23 by decide), _, fun i j r => rfl, fun _ _ _ => rfl⟩
set_option maxRecDepth 8000 in
theorem cMI_0_18 (g : pq_g) : pq_cI (SM g) 0 11 18 := ⟨(show 0 < 23 by decide), _, fun i j r => rfl, fun _ _ _ => rfl, fun _ _ _ _ => rfl⟩
set_option maxRecDepth 8000 in
theorem cMA_0_19 (g : pq_g) : pq_cA (SM g) 0 11 19 15 := ⟨(show 0 < 23 by decide), _, fun i j r => rfl, fun _ _ _ => rfl⟩
set_option maxRecDepth 8000 in
theorem cMA_0_20 (g : pq_g) : pq_cA (SM g) 0 11 20 16 := ⟨(show 0 < 23 by decide), _, fun i j r => rfl, fun _ _ _ => rfl⟩
set_option maxRecDepth 8000 in
theorem cMI_0_21 (g : pq_g) : pq_cI (SM g) 0 11 21 := ⟨(show 0 < 23 by decide), _, fun i j r => rfl, fun _ _ _ => rfl, fun _ _ _ _ => rfl⟩
set_option maxRecDepth 8000 in
theorem cMI_0_22 (g : pq_g) : pq_cI (SM g) 0 11 22 := ⟨(show 0 < 23 by decide), _, fun i j r => rfl, fun _ _ _ => rfl, fun _ _ _ _ => rfl⟩
set_option maxRecDepth 8000 in
theorem cMI_0_23 (g : pq_g) : pq_cI (SM g) 0 11 23 := ⟨(show 0 < 23 by decide), _, fun i j r => rfl, fun _ _ _ => rfl, fun _ _ _ _ => rfl⟩
set_option maxRecDepth 8000 in
theorem cMI_0_24 (g : pq_g) : pq_cI (SM g) 0 11 24 := ⟨(show 0 < 23 by decide), _, fun i j r => rfl, fun _ _ _ => rfl, fun _ _ _ _ => rfl⟩
set_option maxRecDepth 8000 in
theorem cMI_0_25 (g : pq_g) : pq_cI (SM g) 0 11 25 := ⟨(show 0 < 23 by decide), _, fun i j r => rfl, fun _ _ _ => rfl, fun _ _ _ _ => rfl⟩
set_option maxRecDepth 8000 in
theorem cMI_0_26 (g : pq_g) : pq_cI (SM g) 0 11 26 := ⟨(show 0 < 23 by decide), _, fun i j r => rfl, fun _ _ _ => rfl, fun _ _ _ _ => rfl⟩
set_option maxRecDepth 8000 in
theorem cMI_0_27 (g : pq_g) : pq_cI (SM g) 0 11 27 := ⟨(show 0 < 23 by decide), _, fun i j r => rfl, fun _ _ _ => rfl, fun _ _ _ _ => rfl⟩
set_option maxRecDepth 8000 in
theorem cMJ_0_28 (g : pq_g) : pq_cJ (SM g) 0 11 28 := ⟨(show 0 < 23 by decide), _, fun i j r => rfl, fun _ _ _ => rfl, fun _ _ _ _ => rfl⟩
set_option maxRecDepth 8000 in
theorem cMA_0_29 (g : pq_g) : pq_cA (SM g) 0 11 29 17 := ⟨(show 0 < 23 by decide), _, fun i j r => rfl, fun _ _ _ => rfl⟩
set_option maxRecDepth 8000 in
theorem cMA_0_30 (g : pq_g) : pq_cA (SM g) 0 11 30 18 := ⟨(show 0 < 23 by decide), _, fun i j r => rfl, fun _ _ _ => rfl⟩
set_option maxRecDepth 8000 in
theorem cMI_0_31 (g : pq_g) : pq_cI (SM g) 0 11 31 := ⟨(show 0 < 23 by decide), _, fun i j r => rfl, fun _ _ _ => rfl, fun _ _ _ _ => rfl⟩
set_option maxRecDepth 8000 in
theorem cMI_0_32 (g : pq_g) : pq_cI (SM g) 0 11 32 := ⟨(show 0 < 23 by decide), _, fun i j r => rfl, fun _ _ _ => rfl, fun _ _ _ _ => rfl⟩
set_option maxRecDepth 8000 in
theorem cMI_0_33 (g : pq_g) : pq_cI (SM g) 0 11 33 := ⟨(show 0 < 23 by decide), _, fun i j r => rfl, fun _ _ _ => rfl, fun _ _ _ _ => rfl⟩
set_option maxRecDepth 8000 in
theorem cMI_0_34 (g : pq_g) : pq_cI (SM g) 0 11 34 := ⟨(show 0 < 23 by decide), _, fun i j r => rfl, fun _ _ _ => rfl, fun _ _ _ _ => rfl⟩
set_option maxRecDepth 8000 in
theorem cMA_0_35 (g : pq_g) : pq_cA (SM g) 0 11 35 19 := ⟨(show 0 < 23 by decide), _, fun i j r => rfl, fun _ _ _ => rfl⟩
set_option maxRecDepth 8000 in
theorem cMI_0_36 (g : pq_g) : pq_cI (SM g) 0 11 36 := ⟨(show 0 < 23 by decide), _, fun i j r => rfl, fun _ _ _ => rfl, fun _ _ _ _ => rfl⟩
set_option maxRecDepth 8000 in
theorem cMI_0_37 (g : pq_g) : pq_cI (SM g) 0 11 37 := ⟨(show 0 < 23 by decide), _, fun i j r => rfl, fun _ _ _ => rfl, fun _ _ _ _ => rfl⟩
set_option maxRecDepth 8000 in
theorem cMA_0_38 (g : pq_g) : pq_cA (SM g) 0 11 38 20 := ⟨(show 0 < 23 by decide), _, fun i j r => rfl, fun _ _ _ => rfl⟩
set_option maxRecDepth 8000 in
theorem cMA_0_39 (g : pq_g) : pq_cA (SM g) 0 11 39 21 := ⟨(show 0 < 23 by decide), _, fun i j r => rfl, fun _ _ _ => rfl⟩
set_option maxRecDepth 8000 in
theorem cMA_0_40 (g : pq_g) : pq_cA (SM g) 0 11 40 22 := ⟨(show 0 < 23 by decide), _, fun i j r => rfl, fun _ _ _ => rfl⟩
set_option maxRecDepth 8000 in
theorem cMI_0_41 (g : pq_g) : pq_cI (SM g) 0 11 41 := ⟨(show 0 < 23 by decide), _, fun i j r => rfl, fun _ _ _ => rfl, fun _ _ _ _ => rfl⟩
set_option maxRecDepth 8000 in
theorem cMI_0_42 (g : pq_g) : pq_cI (SM g) 0 11 42 := ⟨(show 0 < 23 by decide), _, fun i j r => rfl, fun _ _ _ => rfl, fun _ _ _ _ => rfl⟩
set_option maxRecDepth 8000 in
theorem cMI_0_43 (g : pq_g) : pq_cI (SM g) 0 11 43 := ⟨(show 0 < 23 by decide), _, fun i j r => rfl, fun _ _ _ => rfl, fun _ _ _ _ => rfl⟩
set_option maxRecDepth 8000 in
theorem aMI_1 (g : pq_g) : pq_aI (SM g) 1 7 := ⟨(show 1 < 23 by decide), g.2.2.1 0, 0, fun i j r => rfl, rfl⟩
set_option maxRecDepth 8000 in
theorem aMI_2 (g : pq_g) : pq_aI (SM g) 2 168 := ⟨(show 2 < 23 by decide), g.2.2.1 0, 0, fun i j r => rfl, rfl⟩
set_option maxRecDepth 8000 in
theorem aMI_3 (g : pq_g) : pq_aI (SM g) 3 6 := ⟨(show 3 < 23 by decide), g.2.2.1 0, 0, fun i j r => rfl, rfl⟩
set_option maxRecDepth 8000 in
theorem aMI_4 (g : pq_g) : pq_aI (SM g) 4 6 := ⟨(show 4 < 23 by decide), g.2.2.1 0, 0, fun i j r => rfl, rfl⟩
set_option maxRecDepth 8000 in
theorem aMI_5 (g : pq_g) : pq_aI (SM g) 5 6 := ⟨(show 5 < 23 by decide), g.2.2.1 0, 0, fun i j r => rfl, rfl⟩
set_option maxRecDepth 8000 in
theorem aMI_6 (g : pq_g) : pq_aI (SM g) 6 16 := ⟨(show 6 < 23 by decide), g.2.2.1 0, 0, fun i j r => rfl, rfl⟩
set_option maxRecDepth 8000 in
theorem aMI_7 (g : pq_g) : pq_aI (SM g) 7 16 := ⟨(show 7 < 23 by decide), g.2.2.1 0, 0, fun i j r => rfl, rfl⟩
set_option maxRecDepth 8000 in
theorem aMJ_8 (g : pq_g) : pq_aJ (SM g) 8 28 := ⟨(show 8 < 23 by decide), g.2.2.1 1, 1, fun i j r => rfl, rfl⟩
set_option maxRecDepth 8000 in
theorem aMI_9 (g : pq_g) : pq_aI (SM g) 9 72 := ⟨(show 9 < 23 by decide), g.2.2.1 0, 0, fun i j r => rfl, rfl⟩
set_option maxRecDepth 8000 in
theorem aMI_10 (g : pq_g) : pq_aI (SM g) 10 3 := ⟨(show 10 < 23 by decide), g.2.2.1 0, 0, fun i j r => rfl, rfl⟩
set_option maxRecDepth 8000 in
theorem aMI_11 (g : pq_g) : pq_aI (SM g) 11 16 := ⟨(show 11 < 23 by decide), g.2.2.1 0, 0, fun i j r => rfl, rfl⟩
set_option maxRecDepth 8000 in
theorem aMI_12 (g : pq_g) : pq_aI (SM g) 12 16 := ⟨(show 12 < 23 by decide), g.2.2.1 0, 0, fun i j r => rfl, rfl⟩
set_option maxRecDepth 8000 in
theorem aMI_13 (g : pq_g) : pq_aI (SM g) 13 16 := ⟨(show 13 < 23 by decide), g.2.2.1 0, 0, fun i j r => rfl, rfl⟩
set_option maxRecDepth 8000 in
theorem aMI_14 (g : pq_g) : pq_aI (SM g) 14 16 := ⟨(show 14 < 23 by decide), g.2.2.1 0, 0, fun i j r => rfl, rfl⟩
set_option maxRecDepth 8000 in
theorem aMJ_15 (g : pq_g) : pq_aJ (SM g) 15 190 := ⟨(show 15 < 23 by decide), g.2.2.1 1, 1, fun i j r => rfl, rfl⟩
set_option maxRecDepth 8000 in
theorem aMJ_16 (g : pq_g) : pq_aJ (SM g) 16 190 := ⟨(show 16 < 23 by decide), g.2.2.1 1, 1, fun i j r => rfl, rfl⟩
set_option maxRecDepth 8000 in
theorem aMI_17 (g : pq_g) : pq_aI (SM g) 17 112 := ⟨(show 17 < 23 by decide), g.2.2.1 0, 0, fun i j r => rfl, rfl⟩
set_option maxRecDepth 8000 in
theorem aMI_18 (g : pq_g) : pq_aI (SM g) 18 3 := ⟨(show 18 < 23 by decide), g.2.2.1 0, 0, fun i j r => rfl, rfl⟩
set_option maxRecDepth 8000 in
theorem aMI_19 (g : pq_g) : pq_aI (SM g) 19 500 := ⟨(show 19 < 23 by decide), g.2.2.1 0, 0, fun i j r => rfl, rfl⟩
set_option maxRecDepth 8000 in
theorem aMI_20 (g : pq_g) : pq_aI (SM g) 20 3 := ⟨(show 20 < 23 by decide), g.2.2.1 0, 0, fun i j r => rfl, rfl⟩
set_option maxRecDepth 8000 in
theorem aMI_21 (g : pq_g) : pq_aI (SM g) 21 120 := ⟨(show 21 < 23 by decide), g.2.2.1 0, 0, fun i j r => rfl, rfl⟩
set_option maxRecDepth 8000 in
theorem aMI_22 (g : pq_g) : pq_aI (SM g) 22 190 := ⟨(show 22 < 23 by decide), g.2.2.1 0, 0, fun i j r => rfl, rfl⟩
set_option maxRecDepth 8000 in
theorem aA_57 (g : pq_g) : pq_aA (SC g) 57 6 (fun t => t) := ⟨(show 57 < 83 by decide), g.2.2.1 2, 2, _, fun i j r => rfl, rfl, rfl⟩
set_option maxRecDepth 8000 in
theorem aA_58 (g : pq_g) : pq_aA (SC g) 58 6 (fun t => 6 + t) := ⟨(show 58 < 83 by decide), g.2.2.1 2, 2, _, fun i j r => rfl, rfl, rfl⟩
set_option maxRecDepth 8000 in
theorem aA_80 (g : pq_g) : pq_aA (SC g) 80 3 (fun t => 52 + t) := ⟨(show 80 < 83 by decide), g.2.2.1 3, 3, _, fun i j r => rfl, rfl, rfl⟩
set_option maxRecDepth 8000 in
theorem aR_72 (g : pq_g) : pq_aR (SC g) 72 28 := ⟨(show 72 < 83 by decide), g.2.2.1 4, 4, _, fun i j r => rfl, rfl, rfl⟩
set_option maxRecDepth 8000 in
theorem lt6_12 {q : Nat} (h : q < 6) : q < 12 := Nat.lt_of_lt_of_le h (by decide)
set_option maxRecDepth 8000 in
theorem lt6_k {q : Nat} (h : q < 6) : 6 + q < 12 := by omega
set_option maxRecDepth 8000 in
theorem v_aa57 {X : pq_X} {g : pq_g} {α : Type} {res : α} {nL pc : Nat} {L : List (Nat × Value)} {st : List Value} {h : pq_H} {F : Option α} {b : ByteArray} {own : String} {i : Int32} (hB : pq_B X b nL own) (hK : pq_K X (SC g)) (d : decode b pc = .ok (.aaload, 1)) (kk : i.toNatClampNeg < 6 → V X (SC g) res nL (pc + 1) L (.ref ((SC g).1.2.1 i.toNatClampNeg) :: st) h F) : V X (SC g) res nL pc L (.int i :: .ref ((SC g).1.2.1 57) :: st) h (gd (inb i 6) F) := v_aald hB hK (aA_57 g) d kk
set_option maxRecDepth 8000 in
theorem v_aa58 {X : pq_X} {g : pq_g} {α : Type} {res : α} {nL pc : Nat} {L : List (Nat × Value)} {st : List Value} {h : pq_H} {F : Option α} {b : ByteArray} {own : String} {i : Int32} (hB : pq_B X b nL own) (hK : pq_K X (SC g)) (d : decode b pc = .ok (.aaload, 1)) (kk : i.toNatClampNeg < 6 → V X (SC g) res nL (pc + 1) L (.ref ((SC g).1.2.1 (6 + i.toNatClampNeg)) :: st) h F) : V X (SC g) res nL pc L (.int i :: .ref ((SC g).1.2.1 58) :: st) h (gd (inb i 6) F) := v_aald hB hK (aA_58 g) d kk
set_option maxRecDepth 8000 in
theorem v_aa80 {X : pq_X} {g : pq_g} {α : Type} {res : α} {nL pc : Nat} {L : List (Nat × Value)} {st : List Value} {h : pq_H} {F : Option α} {b : ByteArray} {own : String} {i : Int32} (hB : pq_B X b nL own) (hK : pq_K X (SC g)) (d : decode b pc = .ok (.aaload, 1)) (kk : i.toNatClampNeg < 3 → V X (SC g) res nL (pc + 1) L (.ref ((SC g).1.2.1 (52 + i.toNatClampNeg)) :: st) h F) : V X (SC g) res nL pc L (.int i :: .ref ((SC g).1.2.1 80) :: st) h (gd (inb i 3) F) := v_aald hB hK (aA_80 g) d kk
set_option maxRecDepth 8000 in
theorem fl_X10_10 (g : pq_g) : pq_F (SC g) RX10 10 10 0 (.object "FormsAboveNought$Shelf") := ⟨RX10, TX10, 9, tyX10, rfl, by decide, pq_t2 21 rfl rfl, uw_X10, tyX10_ok, nmX10, rfl⟩
set_option maxRecDepth 8000 in
theorem fl_X10_19 (g : pq_g) : pq_F (SC g) RX10 19 10 1 (.object "FormsAboveNought$Letters") := ⟨RX10, TX10, 9, tyX10, rfl, by decide, pq_t2 22 rfl rfl, uw_X10, tyX10_ok, nmX10, rfl⟩
set_option maxRecDepth 8000 in
theorem fl_X10_26 (g : pq_g) : pq_F (SC g) RX10 26 10 2 (.object "FormsAboveNought$FormReader") := ⟨RX10, TX10, 9, tyX10, rfl, by decide, pq_t2 23 rfl rfl, uw_X10, tyX10_ok, nmX10, rfl⟩
set_option maxRecDepth 8000 in
theorem fl_X10_33 (g : pq_g) : pq_F (SC g) RX10 33 10 3 (.object "FormsAboveNought$ActReader") := ⟨RX10, TX10, 9, tyX10, rfl, by decide, pq_t2 24 rfl rfl, uw_X10, tyX10_ok, nmX10, rfl⟩
set_option maxRecDepth 8000 in
theorem fl_X10_40 (g : pq_g) : pq_F (SC g) RX10 40 10 4 (.object "FormsAboveNought$Speller") := ⟨RX10, TX10, 9, tyX10, rfl, by decide, pq_t2 25 rfl rfl, uw_X10, tyX10_ok, nmX10, rfl⟩
set_option maxRecDepth 8000 in
theorem fl_X10_47 (g : pq_g) : pq_F (SC g) RX10 47 10 5 (.object "FormsAboveNought$Maker") := ⟨RX10, TX10, 9, tyX10, rfl, by decide, pq_t2 26 rfl rfl, uw_X10, tyX10_ok, nmX10, rfl⟩
set_option maxRecDepth 8000 in
theorem fl_X10_54 (g : pq_g) : pq_F (SC g) RX10 54 10 6 (.object "FormsAboveNought$UndoLog") := ⟨RX10, TX10, 9, tyX10, rfl, by decide, pq_t2 27 rfl rfl, uw_X10, tyX10_ok, nmX10, rfl⟩
set_option maxRecDepth 8000 in
theorem fl_X10_61 (g : pq_g) : pq_F (SC g) RX10 61 10 7 (.object "FormsAboveNought$Lists") := ⟨RX10, TX10, 9, tyX10, rfl, by decide, pq_t2 28 rfl rfl, uw_X10, tyX10_ok, nmX10, rfl⟩
set_option maxRecDepth 8000 in
theorem fl_X10_65 (g : pq_g) : pq_F (SC g) RX10 65 10 8 (.array .int) := ⟨RX10, TX10, 9, tyX10, rfl, by decide, pq_t2 29 rfl rfl, uw_X10, tyX10_ok, nmX10, rfl⟩
set_option maxRecDepth 8000 in
theorem fl_X10_73 (g : pq_g) : pq_F (SC g) RX10 73 3 1 .int := ⟨RX3, TX3, 2, tyX3, rfl, by decide, pq_t1 115 rfl rfl, uw_X3, tyX3_ok, nmX3, rfl⟩
set_option maxRecDepth 8000 in
theorem fl_X10_85 (g : pq_g) : pq_F (SC g) RX10 85 6 0 (.array (.object "FormsAboveNought$Form")) := ⟨RX6, TX6, 5, tyX6, rfl, by decide, pq_t1 86 rfl rfl, uw_X6, tyX6_ok, nmX6, rfl⟩
set_option maxRecDepth 8000 in
theorem fl_X10_89 (g : pq_g) : pq_F (SC g) RX10 89 6 3 .int := ⟨RX6, TX6, 5, tyX6, rfl, by decide, pq_t1 93 rfl rfl, uw_X6, tyX6_ok, nmX6, rfl⟩
set_option maxRecDepth 8000 in
theorem fl_X10_105 (g : pq_g) : pq_F (SC g) RX10 105 8 0 .int := ⟨RX8, TX8, 6, tyX8, rfl, by decide, pq_t1 225 rfl rfl, uw_X8, tyX8_ok, nmX8, rfl⟩
set_option maxRecDepth 8000 in
theorem fl_X10_106 (g : pq_g) : pq_F (SC g) RX10 106 0 4 .int := ⟨RX0, TX0, 7, tyX0, rfl, by decide, pq_t1 160 rfl rfl, uw_X0, tyX0_ok, nmX0, rfl⟩
set_option maxRecDepth 8000 in
theorem fl_X10_120 (g : pq_g) : pq_F (SC g) RX10 120 1 0 (.array .int) := ⟨RX1, TX1, 4, tyX1, rfl, by decide, pq_t1 59 rfl rfl, uw_X1, tyX1_ok, nmX1, rfl⟩
set_option maxRecDepth 8000 in
theorem fl_X10_131 (g : pq_g) : pq_F (SC g) RX10 131 1 1 .int := ⟨RX1, TX1, 4, tyX1, rfl, by decide, pq_t1 63 rfl rfl, uw_X1, tyX1_ok, nmX1, rfl⟩
set_option maxRecDepth 8000 in
theorem fl_X10_134 (g : pq_g) : pq_F (SC g) RX10 134 1 2 .int := ⟨RX1, TX1, 4, tyX1, rfl, by decide, pq_t1 66 rfl rfl, uw_X1, tyX1_ok, nmX1, rfl⟩
set_option maxRecDepth 8000 in
theorem fl_X10_137 (g : pq_g) : pq_F (SC g) RX10 137 1 3 .int := ⟨RX1, TX1, 4, tyX1, rfl, by decide, pq_t1 73 rfl rfl, uw_X1, tyX1_ok, nmX1, rfl⟩
set_option maxRecDepth 8000 in
theorem fl_X10_217 (g : pq_g) : pq_F (SC g) RX10 217 4 1 (.array .int) := ⟨RX4, TX4, 2, tyX4, rfl, by decide, pq_t2 15 rfl rfl, uw_X4, tyX4_ok, nmX4, rfl⟩
set_option maxRecDepth 8000 in
theorem fl_X10_263 (g : pq_g) : pq_F (SC g) RX10 263 7 0 .int := ⟨RX7, TX7, 3, tyX7, rfl, by decide, pq_t1 186 rfl rfl, uw_X7, tyX7_ok, nmX7, rfl⟩
set_option maxRecDepth 8000 in
theorem fl_X10_266 (g : pq_g) : pq_F (SC g) RX10 266 7 1 .int := ⟨RX7, TX7, 3, tyX7, rfl, by decide, pq_t1 188 rfl rfl, uw_X7, tyX7_ok, nmX7, rfl⟩
set_option maxRecDepth 8000 in
theorem fl_X10_276 (g : pq_g) : pq_F (SC g) RX10 276 4 0 (.array (.array .int)) := ⟨RX4, TX4, 2, tyX4, rfl, by decide, pq_t2 13 rfl rfl, uw_X4, tyX4_ok, nmX4, rfl⟩
set_option maxRecDepth 8000 in
theorem fl_X10_287 (g : pq_g) : pq_F (SC g) RX10 287 6 4 .int := ⟨RX6, TX6, 5, tyX6, rfl, by decide, pq_t1 95 rfl rfl, uw_X6, tyX6_ok, nmX6, rfl⟩
set_option maxRecDepth 8000 in
theorem fl_X10_303 (g : pq_g) : pq_F (SC g) RX10 303 6 2 (.object "FormsAboveNought$Work") := ⟨RX6, TX6, 5, tyX6, rfl, by decide, pq_t1 90 rfl rfl, uw_X6, tyX6_ok, nmX6, rfl⟩
set_option maxRecDepth 8000 in
theorem fl_X0_9 (g : pq_g) : pq_F (SC g) RX0 9 0 0 (.array .int) := ⟨RX0, TX0, 7, tyX0, rfl, by decide, pq_t1 151 rfl rfl, uw_X0, tyX0_ok, nmX0, rfl⟩
set_option maxRecDepth 8000 in
theorem fl_X0_15 (g : pq_g) : pq_F (SC g) RX0 15 0 1 (.array .int) := ⟨RX0, TX0, 7, tyX0, rfl, by decide, pq_t1 153 rfl rfl, uw_X0, tyX0_ok, nmX0, rfl⟩
set_option maxRecDepth 8000 in
theorem fl_X0_18 (g : pq_g) : pq_F (SC g) RX0 18 0 2 (.array .int) := ⟨RX0, TX0, 7, tyX0, rfl, by decide, pq_t1 155 rfl rfl, uw_X0, tyX0_ok, nmX0, rfl⟩
set_option maxRecDepth 8000 in
theorem fl_X0_21 (g : pq_g) : pq_F (SC g) RX0 21 0 3 (.array .int) := ⟨RX0, TX0, 7, tyX0, rfl, by decide, pq_t1 157 rfl rfl, uw_X0, tyX0_ok, nmX0, rfl⟩
set_option maxRecDepth 8000 in
theorem fl_X0_24 (g : pq_g) : pq_F (SC g) RX0 24 0 5 (.object "FormsAboveNought$Letters") := ⟨RX0, TX0, 7, tyX0, rfl, by decide, pq_t1 162 rfl rfl, uw_X0, tyX0_ok, nmX0, rfl⟩
set_option maxRecDepth 8000 in
theorem fl_X0_28 (g : pq_g) : pq_F (SC g) RX0 28 0 6 .int := ⟨RX0, TX0, 7, tyX0, rfl, by decide, pq_t1 163 rfl rfl, uw_X0, tyX0_ok, nmX0, rfl⟩
set_option maxRecDepth 8000 in
theorem fl_X0_32 (g : pq_g) : pq_F (SC g) RX0 32 0 4 .int := ⟨RX0, TX0, 7, tyX0, rfl, by decide, pq_t1 159 rfl rfl, uw_X0, tyX0_ok, nmX0, rfl⟩
set_option maxRecDepth 8000 in
theorem fl_X0_39 (g : pq_g) : pq_F (SC g) RX0 39 3 1 .int := ⟨RX3, TX3, 2, tyX3, rfl, by decide, pq_t1 116 rfl rfl, uw_X3, tyX3_ok, nmX3, rfl⟩
set_option maxRecDepth 8000 in
theorem fl_X1_9 (g : pq_g) : pq_F (SC g) RX1 9 1 0 (.array .int) := ⟨RX1, TX1, 4, tyX1, rfl, by decide, pq_t1 56 rfl rfl, uw_X1, tyX1_ok, nmX1, rfl⟩
set_option maxRecDepth 8000 in
theorem fl_X1_15 (g : pq_g) : pq_F (SC g) RX1 15 1 1 .int := ⟨RX1, TX1, 4, tyX1, rfl, by decide, pq_t1 61 rfl rfl, uw_X1, tyX1_ok, nmX1, rfl⟩
set_option maxRecDepth 8000 in
theorem fl_X1_19 (g : pq_g) : pq_F (SC g) RX1 19 1 2 .int := ⟨RX1, TX1, 4, tyX1, rfl, by decide, pq_t1 64 rfl rfl, uw_X1, tyX1_ok, nmX1, rfl⟩
set_option maxRecDepth 8000 in
theorem fl_X1_22 (g : pq_g) : pq_F (SC g) RX1 22 1 3 .int := ⟨RX1, TX1, 4, tyX1, rfl, by decide, pq_t1 68 rfl rfl, uw_X1, tyX1_ok, nmX1, rfl⟩
set_option maxRecDepth 8000 in
theorem fl_X2_9 (g : pq_g) : pq_F (SC g) RX2 9 2 0 (.array .int) := ⟨RX2, TX2, 5, tyX2, rfl, by decide, pq_t1 129 rfl rfl, uw_X2, tyX2_ok, nmX2, rfl⟩
set_option maxRecDepth 8000 in
theorem fl_X2_15 (g : pq_g) : pq_F (SC g) RX2 15 2 1 (.object "FormsAboveNought$Letters") := ⟨RX2, TX2, 5, tyX2, rfl, by decide, pq_t1 130 rfl rfl, uw_X2, tyX2_ok, nmX2, rfl⟩
set_option maxRecDepth 8000 in
theorem fl_X2_19 (g : pq_g) : pq_F (SC g) RX2 19 2 2 .int := ⟨RX2, TX2, 5, tyX2, rfl, by decide, pq_t1 131 rfl rfl, uw_X2, tyX2_ok, nmX2, rfl⟩
set_option maxRecDepth 8000 in
theorem fl_X2_23 (g : pq_g) : pq_F (SC g) RX2 23 2 4 .int := ⟨RX2, TX2, 5, tyX2, rfl, by decide, pq_t1 133 rfl rfl, uw_X2, tyX2_ok, nmX2, rfl⟩
set_option maxRecDepth 8000 in
theorem fl_X2_41 (g : pq_g) : pq_F (SC g) RX2 41 3 1 .int := ⟨RX3, TX3, 2, tyX3, rfl, by decide, pq_t1 117 rfl rfl, uw_X3, tyX3_ok, nmX3, rfl⟩
set_option maxRecDepth 8000 in
theorem fl_X2_44 (g : pq_g) : pq_F (SC g) RX2 44 1 3 .int := ⟨RX1, TX1, 4, tyX1, rfl, by decide, pq_t1 70 rfl rfl, uw_X1, tyX1_ok, nmX1, rfl⟩
set_option maxRecDepth 8000 in
theorem fl_X2_51 (g : pq_g) : pq_F (SC g) RX2 51 2 3 .int := ⟨RX2, TX2, 5, tyX2, rfl, by decide, pq_t1 132 rfl rfl, uw_X2, tyX2_ok, nmX2, rfl⟩
set_option maxRecDepth 8000 in
theorem fl_X2_56 (g : pq_g) : pq_F (SC g) RX2 56 1 0 (.array .int) := ⟨RX1, TX1, 4, tyX1, rfl, by decide, pq_t1 57 rfl rfl, uw_X1, tyX1_ok, nmX1, rfl⟩
set_option maxRecDepth 8000 in
theorem fl_X3_9 (g : pq_g) : pq_F (SC g) RX3 9 3 0 (.array .int) := ⟨RX3, TX3, 2, tyX3, rfl, by decide, pq_t1 113 rfl rfl, uw_X3, tyX3_ok, nmX3, rfl⟩
set_option maxRecDepth 8000 in
theorem fl_X3_15 (g : pq_g) : pq_F (SC g) RX3 15 3 1 .int := ⟨RX3, TX3, 2, tyX3, rfl, by decide, pq_t1 114 rfl rfl, uw_X3, tyX3_ok, nmX3, rfl⟩
set_option maxRecDepth 8000 in
theorem fl_X4_11 (g : pq_g) : pq_F (SC g) RX4 11 4 0 (.array (.array .int)) := ⟨RX4, TX4, 2, tyX4, rfl, by decide, pq_t2 12 rfl rfl, uw_X4, tyX4_ok, nmX4, rfl⟩
set_option maxRecDepth 8000 in
theorem fl_X4_16 (g : pq_g) : pq_F (SC g) RX4 16 4 1 (.array .int) := ⟨RX4, TX4, 2, tyX4, rfl, by decide, pq_t2 14 rfl rfl, uw_X4, tyX4_ok, nmX4, rfl⟩
set_option maxRecDepth 8000 in
theorem fl_X5_11 (g : pq_g) : pq_F (SC g) RX5 11 5 0 (.array (.array .long)) := ⟨RX5, TX5, 4, tyX5, rfl, by decide, pq_t1 205 rfl rfl, uw_X5, tyX5_ok, nmX5, rfl⟩
set_option maxRecDepth 8000 in
theorem fl_X5_16 (g : pq_g) : pq_F (SC g) RX5 16 5 1 (.array .int) := ⟨RX5, TX5, 4, tyX5, rfl, by decide, pq_t1 206 rfl rfl, uw_X5, tyX5_ok, nmX5, rfl⟩
set_option maxRecDepth 8000 in
theorem fl_X5_20 (g : pq_g) : pq_F (SC g) RX5 20 6 0 (.array (.object "FormsAboveNought$Form")) := ⟨RX6, TX6, 5, tyX6, rfl, by decide, pq_t1 85 rfl rfl, uw_X6, tyX6_ok, nmX6, rfl⟩
set_option maxRecDepth 8000 in
theorem fl_X5_26 (g : pq_g) : pq_F (SC g) RX5 26 1 3 .int := ⟨RX1, TX1, 4, tyX1, rfl, by decide, pq_t1 67 rfl rfl, uw_X1, tyX1_ok, nmX1, rfl⟩
set_option maxRecDepth 8000 in
theorem fl_X5_36 (g : pq_g) : pq_F (SC g) RX5 36 5 2 .int := ⟨RX5, TX5, 4, tyX5, rfl, by decide, pq_t1 207 rfl rfl, uw_X5, tyX5_ok, nmX5, rfl⟩
set_option maxRecDepth 8000 in
theorem fl_X5_39 (g : pq_g) : pq_F (SC g) RX5 39 5 3 .int := ⟨RX5, TX5, 4, tyX5, rfl, by decide, pq_t1 208 rfl rfl, uw_X5, tyX5_ok, nmX5, rfl⟩
set_option maxRecDepth 8000 in
theorem fl_X5_42 (g : pq_g) : pq_F (SC g) RX5 42 6 3 .int := ⟨RX6, TX6, 5, tyX6, rfl, by decide, pq_t1 92 rfl rfl, uw_X6, tyX6_ok, nmX6, rfl⟩
set_option maxRecDepth 8000 in
theorem fl_X6_11 (g : pq_g) : pq_F (SC g) RX6 11 6 0 (.array (.object "FormsAboveNought$Form")) := ⟨RX6, TX6, 5, tyX6, rfl, by decide, pq_t1 84 rfl rfl, uw_X6, tyX6_ok, nmX6, rfl⟩
set_option maxRecDepth 8000 in
theorem fl_X6_17 (g : pq_g) : pq_F (SC g) RX6 17 6 1 (.array (.object "FormsAboveNought$Form")) := ⟨RX6, TX6, 5, tyX6, rfl, by decide, pq_t1 88 rfl rfl, uw_X6, tyX6_ok, nmX6, rfl⟩
set_option maxRecDepth 8000 in
theorem fl_X6_23 (g : pq_g) : pq_F (SC g) RX6 23 6 2 (.object "FormsAboveNought$Work") := ⟨RX6, TX6, 5, tyX6, rfl, by decide, pq_t1 89 rfl rfl, uw_X6, tyX6_ok, nmX6, rfl⟩
set_option maxRecDepth 8000 in
theorem fl_X6_27 (g : pq_g) : pq_F (SC g) RX6 27 6 4 .int := ⟨RX6, TX6, 5, tyX6, rfl, by decide, pq_t1 94 rfl rfl, uw_X6, tyX6_ok, nmX6, rfl⟩
set_option maxRecDepth 8000 in
theorem fl_X6_32 (g : pq_g) : pq_F (SC g) RX6 32 6 3 .int := ⟨RX6, TX6, 5, tyX6, rfl, by decide, pq_t1 91 rfl rfl, uw_X6, tyX6_ok, nmX6, rfl⟩
set_option maxRecDepth 8000 in
theorem fl_X6_43 (g : pq_g) : pq_F (SC g) RX6 43 1 3 .int := ⟨RX1, TX1, 4, tyX1, rfl, by decide, pq_t1 72 rfl rfl, uw_X1, tyX1_ok, nmX1, rfl⟩
set_option maxRecDepth 8000 in
theorem fl_X6_71 (g : pq_g) : pq_F (SC g) RX6 71 0 4 .int := ⟨RX0, TX0, 7, tyX0, rfl, by decide, pq_t1 161 rfl rfl, uw_X0, tyX0_ok, nmX0, rfl⟩
set_option maxRecDepth 8000 in
theorem fl_X6_74 (g : pq_g) : pq_F (SC g) RX6 74 0 0 (.array .int) := ⟨RX0, TX0, 7, tyX0, rfl, by decide, pq_t1 152 rfl rfl, uw_X0, tyX0_ok, nmX0, rfl⟩
set_option maxRecDepth 8000 in
theorem fl_X6_78 (g : pq_g) : pq_F (SC g) RX6 78 0 2 (.array .int) := ⟨RX0, TX0, 7, tyX0, rfl, by decide, pq_t1 156 rfl rfl, uw_X0, tyX0_ok, nmX0, rfl⟩
set_option maxRecDepth 8000 in
theorem fl_X6_81 (g : pq_g) : pq_F (SC g) RX6 81 0 3 (.array .int) := ⟨RX0, TX0, 7, tyX0, rfl, by decide, pq_t1 158 rfl rfl, uw_X0, tyX0_ok, nmX0, rfl⟩
set_option maxRecDepth 8000 in
theorem fl_X6_88 (g : pq_g) : pq_F (SC g) RX6 88 0 1 (.array .int) := ⟨RX0, TX0, 7, tyX0, rfl, by decide, pq_t1 154 rfl rfl, uw_X0, tyX0_ok, nmX0, rfl⟩
set_option maxRecDepth 8000 in
theorem fl_X6_117 (g : pq_g) : pq_F (SC g) RX6 117 9 1 .int := ⟨RX9, TX9, 2, tyX9, rfl, by decide, pq_t1 44 rfl rfl, uw_X9, tyX9_ok, nmX9, rfl⟩
set_option maxRecDepth 8000 in
theorem fl_X6_118 (g : pq_g) : pq_F (SC g) RX6 118 9 0 (.array .long) := ⟨RX9, TX9, 2, tyX9, rfl, by decide, pq_t1 42 rfl rfl, uw_X9, tyX9_ok, nmX9, rfl⟩
set_option maxRecDepth 8000 in
theorem fl_X6_155 (g : pq_g) : pq_F (SC g) RX6 155 1 0 (.array .int) := ⟨RX1, TX1, 4, tyX1, rfl, by decide, pq_t1 60 rfl rfl, uw_X1, tyX1_ok, nmX1, rfl⟩
set_option maxRecDepth 8000 in
theorem fl_X7_9 (g : pq_g) : pq_F (SC g) RX7 9 7 0 .int := ⟨RX7, TX7, 3, tyX7, rfl, by decide, pq_t1 185 rfl rfl, uw_X7, tyX7_ok, nmX7, rfl⟩
set_option maxRecDepth 8000 in
theorem fl_X7_15 (g : pq_g) : pq_F (SC g) RX7 15 7 1 .int := ⟨RX7, TX7, 3, tyX7, rfl, by decide, pq_t1 187 rfl rfl, uw_X7, tyX7_ok, nmX7, rfl⟩
set_option maxRecDepth 8000 in
theorem fl_X7_18 (g : pq_g) : pq_F (SC g) RX7 18 7 2 .int := ⟨RX7, TX7, 3, tyX7, rfl, by decide, pq_t1 189 rfl rfl, uw_X7, tyX7_ok, nmX7, rfl⟩
set_option maxRecDepth 8000 in
theorem fl_X7_21 (g : pq_g) : pq_F (SC g) RX7 21 1 3 .int := ⟨RX1, TX1, 4, tyX1, rfl, by decide, pq_t1 69 rfl rfl, uw_X1, tyX1_ok, nmX1, rfl⟩
set_option maxRecDepth 8000 in
theorem fl_X8_9 (g : pq_g) : pq_F (SC g) RX8 9 8 1 (.array .int) := ⟨RX8, TX8, 6, tyX8, rfl, by decide, pq_t1 226 rfl rfl, uw_X8, tyX8_ok, nmX8, rfl⟩
set_option maxRecDepth 8000 in
theorem fl_X8_15 (g : pq_g) : pq_F (SC g) RX8 15 8 2 (.array .int) := ⟨RX8, TX8, 6, tyX8, rfl, by decide, pq_t1 227 rfl rfl, uw_X8, tyX8_ok, nmX8, rfl⟩
set_option maxRecDepth 8000 in
theorem fl_X8_18 (g : pq_g) : pq_F (SC g) RX8 18 8 3 (.array .int) := ⟨RX8, TX8, 6, tyX8, rfl, by decide, pq_t1 228 rfl rfl, uw_X8, tyX8_ok, nmX8, rfl⟩
set_option maxRecDepth 8000 in
theorem fl_X8_21 (g : pq_g) : pq_F (SC g) RX8 21 8 4 (.array .int) := ⟨RX8, TX8, 6, tyX8, rfl, by decide, pq_t1 229 rfl rfl, uw_X8, tyX8_ok, nmX8, rfl⟩
set_option maxRecDepth 8000 in
theorem fl_X8_24 (g : pq_g) : pq_F (SC g) RX8 24 8 5 .int := ⟨RX8, TX8, 6, tyX8, rfl, by decide, pq_t1 230 rfl rfl, uw_X8, tyX8_ok, nmX8, rfl⟩
set_option maxRecDepth 8000 in
theorem fl_X8_28 (g : pq_g) : pq_F (SC g) RX8 28 8 0 .int := ⟨RX8, TX8, 6, tyX8, rfl, by decide, pq_t1 224 rfl rfl, uw_X8, tyX8_ok, nmX8, rfl⟩
set_option maxRecDepth 8000 in
theorem fl_X8_43 (g : pq_g) : pq_F (SC g) RX8 43 6 0 (.array (.object "FormsAboveNought$Form")) := ⟨RX6, TX6, 5, tyX6, rfl, by decide, pq_t1 87 rfl rfl, uw_X6, tyX6_ok, nmX6, rfl⟩
set_option maxRecDepth 8000 in
theorem fl_X8_47 (g : pq_g) : pq_F (SC g) RX8 47 1 1 .int := ⟨RX1, TX1, 4, tyX1, rfl, by decide, pq_t1 62 rfl rfl, uw_X1, tyX1_ok, nmX1, rfl⟩
set_option maxRecDepth 8000 in
theorem fl_X8_52 (g : pq_g) : pq_F (SC g) RX8 52 1 2 .int := ⟨RX1, TX1, 4, tyX1, rfl, by decide, pq_t1 65 rfl rfl, uw_X1, tyX1_ok, nmX1, rfl⟩
set_option maxRecDepth 8000 in
theorem fl_X8_55 (g : pq_g) : pq_F (SC g) RX8 55 1 0 (.array .int) := ⟨RX1, TX1, 4, tyX1, rfl, by decide, pq_t1 58 rfl rfl, uw_X1, tyX1_ok, nmX1, rfl⟩
set_option maxRecDepth 8000 in
theorem fl_X9_9 (g : pq_g) : pq_F (SC g) RX9 9 9 0 (.array .long) := ⟨RX9, TX9, 2, tyX9, rfl, by decide, pq_t1 41 rfl rfl, uw_X9, tyX9_ok, nmX9, rfl⟩
set_option maxRecDepth 8000 in
theorem fl_X9_15 (g : pq_g) : pq_F (SC g) RX9 15 9 1 .int := ⟨RX9, TX9, 2, tyX9, rfl, by decide, pq_t1 43 rfl rfl, uw_X9, tyX9_ok, nmX9, rfl⟩
set_option maxRecDepth 8000 in
theorem fl_X9_23 (g : pq_g) : pq_F (SC g) RX9 23 1 3 .int := ⟨RX1, TX1, 4, tyX1, rfl, by decide, pq_t1 71 rfl rfl, uw_X1, tyX1_ok, nmX1, rfl⟩
set_option maxRecDepth 8000 in
theorem fl_X11_1 (g : pq_g) : pq_F (SM g) RX11 1 11 0 (.array .int) := ⟨RX11, TX11, 44, tyX11, rfl, by decide, pq_t4 198 rfl rfl, uw_X11, tyX11_ok, nmX11, rfl⟩
set_option maxRecDepth 8000 in
theorem fl_X11_27 (g : pq_g) : pq_F (SM g) RX11 27 11 1 (.array .int) := ⟨RX11, TX11, 44, tyX11, rfl, by decide, pq_t4 199 rfl rfl, uw_X11, tyX11_ok, nmX11, rfl⟩
set_option maxRecDepth 8000 in
theorem fl_X11_30 (g : pq_g) : pq_F (SM g) RX11 30 11 2 (.array .int) := ⟨RX11, TX11, 44, tyX11, rfl, by decide, pq_t4 200 rfl rfl, uw_X11, tyX11_ok, nmX11, rfl⟩
set_option maxRecDepth 8000 in
theorem fl_X11_33 (g : pq_g) : pq_F (SM g) RX11 33 11 3 (.array .int) := ⟨RX11, TX11, 44, tyX11, rfl, by decide, pq_t4 201 rfl rfl, uw_X11, tyX11_ok, nmX11, rfl⟩
set_option maxRecDepth 8000 in
theorem fl_X11_36 (g : pq_g) : pq_F (SM g) RX11 36 11 4 (.array .int) := ⟨RX11, TX11, 44, tyX11, rfl, by decide, pq_t4 202 rfl rfl, uw_X11, tyX11_ok, nmX11, rfl⟩
set_option maxRecDepth 8000 in
theorem fl_X11_39 (g : pq_g) : pq_F (SM g) RX11 39 11 6 (.array .int) := ⟨RX11, TX11, 44, tyX11, rfl, by decide, pq_t4 204 rfl rfl, uw_X11, tyX11_ok, nmX11, rfl⟩
set_option maxRecDepth 8000 in
theorem fl_X11_42 (g : pq_g) : pq_F (SM g) RX11 42 11 7 (.array .int) := ⟨RX11, TX11, 44, tyX11, rfl, by decide, pq_t4 205 rfl rfl, uw_X11, tyX11_ok, nmX11, rfl⟩
set_option maxRecDepth 8000 in
theorem fl_X11_45 (g : pq_g) : pq_F (SM g) RX11 45 11 9 (.array .long) := ⟨RX11, TX11, 44, tyX11, rfl, by decide, pq_t4 207 rfl rfl, uw_X11, tyX11_ok, nmX11, rfl⟩
set_option maxRecDepth 8000 in
theorem fl_X11_49 (g : pq_g) : pq_F (SM g) RX11 49 11 10 (.array .int) := ⟨RX11, TX11, 44, tyX11, rfl, by decide, pq_t4 208 rfl rfl, uw_X11, tyX11_ok, nmX11, rfl⟩
set_option maxRecDepth 8000 in
theorem fl_X11_52 (g : pq_g) : pq_F (SM g) RX11 52 11 13 (.array .int) := ⟨RX11, TX11, 44, tyX11, rfl, by decide, pq_t4 211 rfl rfl, uw_X11, tyX11_ok, nmX11, rfl⟩
set_option maxRecDepth 8000 in
theorem fl_X11_55 (g : pq_g) : pq_F (SM g) RX11 55 11 14 (.array .int) := ⟨RX11, TX11, 44, tyX11, rfl, by decide, pq_t4 212 rfl rfl, uw_X11, tyX11_ok, nmX11, rfl⟩
set_option maxRecDepth 8000 in
theorem fl_X11_58 (g : pq_g) : pq_F (SM g) RX11 58 11 15 (.array .int) := ⟨RX11, TX11, 44, tyX11, rfl, by decide, pq_t4 213 rfl rfl, uw_X11, tyX11_ok, nmX11, rfl⟩
set_option maxRecDepth 8000 in
theorem fl_X11_61 (g : pq_g) : pq_F (SM g) RX11 61 11 16 (.array .int) := ⟨RX11, TX11, 44, tyX11, rfl, by decide, pq_t4 214 rfl rfl, uw_X11, tyX11_ok, nmX11, rfl⟩
set_option maxRecDepth 8000 in
theorem fl_X11_64 (g : pq_g) : pq_F (SM g) RX11 64 11 17 (.array .int) := ⟨RX11, TX11, 44, tyX11, rfl, by decide, pq_t4 215 rfl rfl, uw_X11, tyX11_ok, nmX11, rfl⟩
set_option maxRecDepth 8000 in
theorem fl_X11_67 (g : pq_g) : pq_F (SM g) RX11 67 11 19 (.array .long) := ⟨RX11, TX11, 44, tyX11, rfl, by decide, pq_t4 217 rfl rfl, uw_X11, tyX11_ok, nmX11, rfl⟩
set_option maxRecDepth 8000 in
theorem fl_X11_70 (g : pq_g) : pq_F (SM g) RX11 70 11 20 (.array .long) := ⟨RX11, TX11, 44, tyX11, rfl, by decide, pq_t4 218 rfl rfl, uw_X11, tyX11_ok, nmX11, rfl⟩
set_option maxRecDepth 8000 in
theorem fl_X11_73 (g : pq_g) : pq_F (SM g) RX11 73 11 29 (.array .int) := ⟨RX11, TX11, 44, tyX11, rfl, by decide, pq_t4 227 rfl rfl, uw_X11, tyX11_ok, nmX11, rfl⟩
set_option maxRecDepth 8000 in
theorem fl_X11_76 (g : pq_g) : pq_F (SM g) RX11 76 11 30 (.array .int) := ⟨RX11, TX11, 44, tyX11, rfl, by decide, pq_t4 228 rfl rfl, uw_X11, tyX11_ok, nmX11, rfl⟩
set_option maxRecDepth 8000 in
theorem fl_X11_79 (g : pq_g) : pq_F (SM g) RX11 79 11 35 (.array .int) := ⟨RX11, TX11, 44, tyX11, rfl, by decide, pq_t4 233 rfl rfl, uw_X11, tyX11_ok, nmX11, rfl⟩
set_option maxRecDepth 8000 in
theorem fl_X11_82 (g : pq_g) : pq_F (SM g) RX11 82 11 38 (.array .int) := ⟨RX11, TX11, 44, tyX11, rfl, by decide, pq_t4 236 rfl rfl, uw_X11, tyX11_ok, nmX11, rfl⟩
set_option maxRecDepth 8000 in
theorem fl_X11_85 (g : pq_g) : pq_F (SM g) RX11 85 11 39 (.array .int) := ⟨RX11, TX11, 44, tyX11, rfl, by decide, pq_t4 237 rfl rfl, uw_X11, tyX11_ok, nmX11, rfl⟩
set_option maxRecDepth 8000 in
theorem fl_X11_88 (g : pq_g) : pq_F (SM g) RX11 88 11 40 (.array .int) := ⟨RX11, TX11, 44, tyX11, rfl, by decide, pq_t4 238 rfl rfl, uw_X11, tyX11_ok, nmX11, rfl⟩
set_option maxRecDepth 8000 in
theorem fl_X11_91 (g : pq_g) : pq_F (SM g) RX11 91 11 42 .int := ⟨RX11, TX11, 44, tyX11, rfl, by decide, pq_t5 0 rfl rfl, uw_X11, tyX11_ok, nmX11, rfl⟩
set_option maxRecDepth 8000 in
theorem fl_X11_95 (g : pq_g) : pq_F (SM g) RX11 95 11 5 .int := ⟨RX11, TX11, 44, tyX11, rfl, by decide, pq_t4 203 rfl rfl, uw_X11, tyX11_ok, nmX11, rfl⟩
set_option maxRecDepth 8000 in
theorem fl_X11_119 (g : pq_g) : pq_F (SM g) RX11 119 11 8 .int := ⟨RX11, TX11, 44, tyX11, rfl, by decide, pq_t4 206 rfl rfl, uw_X11, tyX11_ok, nmX11, rfl⟩
set_option maxRecDepth 8000 in
theorem fl_X11_169 (g : pq_g) : pq_F (SM g) RX11 169 11 11 .int := ⟨RX11, TX11, 44, tyX11, rfl, by decide, pq_t4 209 rfl rfl, uw_X11, tyX11_ok, nmX11, rfl⟩
set_option maxRecDepth 8000 in
theorem fl_X11_172 (g : pq_g) : pq_F (SM g) RX11 172 11 12 .int := ⟨RX11, TX11, 44, tyX11, rfl, by decide, pq_t4 210 rfl rfl, uw_X11, tyX11_ok, nmX11, rfl⟩
set_option maxRecDepth 8000 in
theorem fl_X11_203 (g : pq_g) : pq_F (SM g) RX11 203 11 18 .int := ⟨RX11, TX11, 44, tyX11, rfl, by decide, pq_t4 216 rfl rfl, uw_X11, tyX11_ok, nmX11, rfl⟩
set_option maxRecDepth 8000 in
theorem fl_X11_239 (g : pq_g) : pq_F (SM g) RX11 239 11 21 .int := ⟨RX11, TX11, 44, tyX11, rfl, by decide, pq_t4 219 rfl rfl, uw_X11, tyX11_ok, nmX11, rfl⟩
set_option maxRecDepth 8000 in
theorem fl_X11_258 (g : pq_g) : pq_F (SM g) RX11 258 11 22 .int := ⟨RX11, TX11, 44, tyX11, rfl, by decide, pq_t4 220 rfl rfl, uw_X11, tyX11_ok, nmX11, rfl⟩
set_option maxRecDepth 8000 in
theorem fl_X11_261 (g : pq_g) : pq_F (SM g) RX11 261 11 23 .int := ⟨RX11, TX11, 44, tyX11, rfl, by decide, pq_t4 221 rfl rfl, uw_X11, tyX11_ok, nmX11, rfl⟩
set_option maxRecDepth 8000 in
theorem fl_X11_264 (g : pq_g) : pq_F (SM g) RX11 264 11 24 .int := ⟨RX11, TX11, 44, tyX11, rfl, by decide, pq_t4 222 rfl rfl, uw_X11, tyX11_ok, nmX11, rfl⟩
set_option maxRecDepth 8000 in
theorem fl_X11_267 (g : pq_g) : pq_F (SM g) RX11 267 11 25 .int := ⟨RX11, TX11, 44, tyX11, rfl, by decide, pq_t4 223 rfl rfl, uw_X11, tyX11_ok, nmX11, rfl⟩
set_option maxRecDepth 8000 in
theorem fl_X11_270 (g : pq_g) : pq_F (SM g) RX11 270 11 26 .int := ⟨RX11, TX11, 44, tyX11, rfl, by decide, pq_t4 224 rfl rfl, uw_X11, tyX11_ok, nmX11, rfl⟩
set_option maxRecDepth 8000 in
theorem fl_X11_279 (g : pq_g) : pq_F (SM g) RX11 279 11 28 .long := ⟨RX11, TX11, 44, tyX11, rfl, by decide, pq_t4 226 rfl rfl, uw_X11, tyX11_ok, nmX11, rfl⟩
set_option maxRecDepth 8000 in
theorem fl_X11_283 (g : pq_g) : pq_F (SM g) RX11 283 11 27 .int := ⟨RX11, TX11, 44, tyX11, rfl, by decide, pq_t4 225 rfl rfl, uw_X11, tyX11_ok, nmX11, rfl⟩
set_option maxRecDepth 8000 in
theorem fl_X11_324 (g : pq_g) : pq_F (SM g) RX11 324 11 32 .int := ⟨RX11, TX11, 44, tyX11, rfl, by decide, pq_t4 230 rfl rfl, uw_X11, tyX11_ok, nmX11, rfl⟩
set_option maxRecDepth 8000 in
theorem fl_X11_327 (g : pq_g) : pq_F (SM g) RX11 327 11 33 .int := ⟨RX11, TX11, 44, tyX11, rfl, by decide, pq_t4 231 rfl rfl, uw_X11, tyX11_ok, nmX11, rfl⟩
set_option maxRecDepth 8000 in
theorem fl_X11_333 (g : pq_g) : pq_F (SM g) RX11 333 11 34 .int := ⟨RX11, TX11, 44, tyX11, rfl, by decide, pq_t4 232 rfl rfl, uw_X11, tyX11_ok, nmX11, rfl⟩
set_option maxRecDepth 8000 in
theorem fl_X11_339 (g : pq_g) : pq_F (SM g) RX11 339 11 31 .int := ⟨RX11, TX11, 44, tyX11, rfl, by decide, pq_t4 229 rfl rfl, uw_X11, tyX11_ok, nmX11, rfl⟩
set_option maxRecDepth 8000 in
theorem fl_X11_367 (g : pq_g) : pq_F (SM g) RX11 367 11 36 .int := ⟨RX11, TX11, 44, tyX11, rfl, by decide, pq_t4 234 rfl rfl, uw_X11, tyX11_ok, nmX11, rfl⟩
set_option maxRecDepth 8000 in
theorem fl_X11_379 (g : pq_g) : pq_F (SM g) RX11 379 11 37 .int := ⟨RX11, TX11, 44, tyX11, rfl, by decide, pq_t4 235 rfl rfl, uw_X11, tyX11_ok, nmX11, rfl⟩
set_option maxRecDepth 8000 in
theorem fl_X11_391 (g : pq_g) : pq_F (SM g) RX11 391 11 43 .boolean := ⟨RX11, TX11, 44, tyX11, rfl, by decide, pq_t5 1 rfl rfl, uw_X11, tyX11_ok, nmX11, rfl⟩
set_option maxRecDepth 8000 in
theorem fl_X11_395 (g : pq_g) : pq_F (SM g) RX11 395 11 41 .int := ⟨RX11, TX11, 44, tyX11, rfl, by decide, pq_t4 239 rfl rfl, uw_X11, tyX11_ok, nmX11, rfl⟩
set_option maxRecDepth 8000 in
theorem fin_X0_4 (g : pq_g) : pq_fin (SC g) 0 4 := ⟨RX0, TX0, 7, rfl, rfl⟩
set_option maxRecDepth 8000 in
theorem fin_X0_5 (g : pq_g) : pq_fin (SC g) 0 5 := ⟨RX0, TX0, 7, rfl, rfl⟩
set_option maxRecDepth 8000 in
theorem fin_X0_6 (g : pq_g) : pq_fin (SC g) 0 6 := ⟨RX0, TX0, 7, rfl, rfl⟩
set_option maxRecDepth 8000 in
theorem fin_X1_1 (g : pq_g) : pq_fin (SC g) 1 1 := ⟨RX1, TX1, 4, rfl, rfl⟩
set_option maxRecDepth 8000 in
theorem fin_X1_2 (g : pq_g) : pq_fin (SC g) 1 2 := ⟨RX1, TX1, 4, rfl, rfl⟩
set_option maxRecDepth 8000 in
theorem fin_X1_3 (g : pq_g) : pq_fin (SC g) 1 3 := ⟨RX1, TX1, 4, rfl, rfl⟩
set_option maxRecDepth 8000 in
theorem fin_X2_1 (g : pq_g) : pq_fin (SC g) 2 1 := ⟨RX2, TX2, 5, rfl, rfl⟩
set_option maxRecDepth 8000 in
theorem fin_X2_2 (g : pq_g) : pq_fin (SC g) 2 2 := ⟨RX2, TX2, 5, rfl, rfl⟩
set_option maxRecDepth 8000 in
theorem fin_X2_3 (g : pq_g) : pq_fin (SC g) 2 3 := ⟨RX2, TX2, 5, rfl, rfl⟩
set_option maxRecDepth 8000 in
theorem fin_X2_4 (g : pq_g) : pq_fin (SC g) 2 4 := ⟨RX2, TX2, 5, rfl, rfl⟩
set_option maxRecDepth 8000 in
theorem fin_X3_1 (g : pq_g) : pq_fin (SC g) 3 1 := ⟨RX3, TX3, 2, rfl, rfl⟩
set_option maxRecDepth 8000 in
theorem fin_X5_2 (g : pq_g) : pq_fin (SC g) 5 2 := ⟨RX5, TX5, 4, rfl, rfl⟩
set_option maxRecDepth 8000 in
theorem fin_X5_3 (g : pq_g) : pq_fin (SC g) 5 3 := ⟨RX5, TX5, 4, rfl, rfl⟩
set_option maxRecDepth 8000 in
theorem fin_X6_3 (g : pq_g) : pq_fin (SC g) 6 3 := ⟨RX6, TX6, 5, rfl, rfl⟩
set_option maxRecDepth 8000 in
theorem fin_X6_4 (g : pq_g) : pq_fin (SC g) 6 4 := ⟨RX6, TX6, 5, rfl, rfl⟩
set_option maxRecDepth 8000 in
theorem fin_X7_0 (g : pq_g) : pq_fin (SC g) 7 0 := ⟨RX7, TX7, 3, rfl, rfl⟩
set_option maxRecDepth 8000 in
theorem fin_X7_1 (g : pq_g) : pq_fin (SC g) 7 1 := ⟨RX7, TX7, 3, rfl, rfl⟩
set_option maxRecDepth 8000 in
theorem fin_X7_2 (g : pq_g) : pq_fin (SC g) 7 2 := ⟨RX7, TX7, 3, rfl, rfl⟩
set_option maxRecDepth 8000 in
theorem fin_X8_0 (g : pq_g) : pq_fin (SC g) 8 0 := ⟨RX8, TX8, 6, rfl, rfl⟩
set_option maxRecDepth 8000 in
theorem fin_X8_5 (g : pq_g) : pq_fin (SC g) 8 5 := ⟨RX8, TX8, 6, rfl, rfl⟩
set_option maxRecDepth 8000 in
theorem fin_X9_1 (g : pq_g) : pq_fin (SC g) 9 1 := ⟨RX9, TX9, 2, rfl, rfl⟩
set_option maxRecDepth 8000 in
theorem fin_X11_5 (g : pq_g) : pq_fin (SM g) 11 5 := ⟨RX11, TX11, 44, rfl, rfl⟩
set_option maxRecDepth 8000 in
theorem fin_X11_8 (g : pq_g) : pq_fin (SM g) 11 8 := ⟨RX11, TX11, 44, rfl, rfl⟩
set_option maxRecDepth 8000 in
theorem fin_X11_11 (g : pq_g) : pq_fin (SM g) 11 11 := ⟨RX11, TX11, 44, rfl, rfl⟩
set_option maxRecDepth 8000 in
theorem fin_X11_12 (g : pq_g) : pq_fin (SM g) 11 12 := ⟨RX11, TX11, 44, rfl, rfl⟩
set_option maxRecDepth 8000 in
theorem fin_X11_18 (g : pq_g) : pq_fin (SM g) 11 18 := ⟨RX11, TX11, 44, rfl, rfl⟩
set_option maxRecDepth 8000 in
theorem fin_X11_21 (g : pq_g) : pq_fin (SM g) 11 21 := ⟨RX11, TX11, 44, rfl, rfl⟩
set_option maxRecDepth 8000 in
theorem fin_X11_22 (g : pq_g) : pq_fin (SM g) 11 22 := ⟨RX11, TX11, 44, rfl, rfl⟩
set_option maxRecDepth 8000 in
theorem fin_X11_23 (g : pq_g) : pq_fin (SM g) 11 23 := ⟨RX11, TX11, 44, rfl, rfl⟩
set_option maxRecDepth 8000 in
theorem fin_X11_24 (g : pq_g) : pq_fin (SM g) 11 24 := ⟨RX11, TX11, 44, rfl, rfl⟩
set_option maxRecDepth 8000 in
theorem fin_X11_25 (g : pq_g) : pq_fin (SM g) 11 25 := ⟨RX11, TX11, 44, rfl, rfl⟩
set_option maxRecDepth 8000 in
theorem fin_X11_26 (g : pq_g) : pq_fin (SM g) 11 26 := ⟨RX11, TX11, 44, rfl, rfl⟩
set_option maxRecDepth 8000 in
theorem fin_X11_27 (g : pq_g) : pq_fin (SM g) 11 27 := ⟨RX11, TX11, 44, rfl, rfl⟩
set_option maxRecDepth 8000 in
theorem fin_X11_28 (g : pq_g) : pq_fin (SM g) 11 28 := ⟨RX11, TX11, 44, rfl, rfl⟩
set_option maxRecDepth 8000 in
theorem fin_X11_31 (g : pq_g) : pq_fin (SM g) 11 31 := ⟨RX11, TX11, 44, rfl, rfl⟩
set_option maxRecDepth 8000 in
theorem fin_X11_32 (g : pq_g) : pq_fin (SM g) 11 32 := ⟨RX11, TX11, 44, rfl, rfl⟩
set_option maxRecDepth 8000 in
theorem fin_X11_33 (g : pq_g) : pq_fin (SM g) 11 33 := ⟨RX11, TX11, 44, rfl, rfl⟩
set_option maxRecDepth 8000 in
theorem fin_X11_34 (g : pq_g) : pq_fin (SM g) 11 34 := ⟨RX11, TX11, 44, rfl, rfl⟩
set_option maxRecDepth 8000 in
theorem fin_X11_36 (g : pq_g) : pq_fin (SM g) 11 36 := ⟨RX11, TX11, 44, rfl, rfl⟩
set_option maxRecDepth 8000 in
theorem fin_X11_37 (g : pq_g) : pq_fin (SM g) 11 37 := ⟨RX11, TX11, 44, rfl, rfl⟩
set_option maxRecDepth 8000 in
theorem fin_X11_41 (g : pq_g) : pq_fin (SM g) 11 41 := ⟨RX11, TX11, 44, rfl, rfl⟩
set_option maxRecDepth 8000 in
theorem fin_X11_42 (g : pq_g) : pq_fin (SM g) 11 42 := ⟨RX11, TX11, 44, rfl, rfl⟩
set_option maxRecDepth 8000 in
theorem fin_X11_43 (g : pq_g) : pq_fin (SM g) 11 43 := ⟨RX11, TX11, 44, rfl, rfl⟩
set_option maxRecDepth 8000 in
theorem lv_X10_69 : Cond.methodLink RX10 69 yX10_refuse ∈ pq_G ∧ Cond.instanceMethod yX10_refuse ∈ pq_G ∧ Cond.selects yX10_refuse.cls yX10_refuse yX10_refuse ∈ pq_G := ⟨pq_t2 53 rfl rfl, pq_t2 55 rfl rfl, pq_t0 0 rfl rfl⟩
set_option maxRecDepth 8000 in
theorem lv_X10_77 : Cond.methodLink RX10 77 yX3_add ∈ pq_G ∧ Cond.instanceMethod yX3_add ∈ pq_G ∧ Cond.selects yX3_add.cls yX3_add yX3_add ∈ pq_G := ⟨pq_t2 57 rfl rfl, pq_t2 58 rfl rfl, pq_t2 59 rfl rfl⟩
set_option maxRecDepth 8000 in
theorem lv_X10_81 : Cond.methodLink RX10 81 yX6_isFull ∈ pq_G ∧ Cond.instanceMethod yX6_isFull ∈ pq_G ∧ Cond.selects yX6_isFull.cls yX6_isFull yX6_isFull ∈ pq_G := ⟨pq_t2 65 rfl rfl, pq_t2 66 rfl rfl, pq_t2 67 rfl rfl⟩
set_option maxRecDepth 8000 in
theorem lv_X10_90 : Cond.methodLink RX10 90 yX2_read ∈ pq_G ∧ Cond.instanceMethod yX2_read ∈ pq_G ∧ Cond.selects yX2_read.cls yX2_read yX2_read ∈ pq_G := ⟨pq_t2 69 rfl rfl, pq_t2 70 rfl rfl, pq_t2 71 rfl rfl⟩
set_option maxRecDepth 8000 in
theorem lv_X10_94 : Cond.methodLink RX10 94 yX10_cameOr ∈ pq_G ∧ Cond.instanceMethod yX10_cameOr ∈ pq_G ∧ Cond.selects yX10_cameOr.cls yX10_cameOr yX10_cameOr ∈ pq_G := ⟨pq_t2 108 rfl rfl, pq_t2 110 rfl rfl, pq_t0 5 rfl rfl⟩
set_option maxRecDepth 8000 in
theorem lv_X10_98 : Cond.methodLink RX10 98 yX0_read ∈ pq_G ∧ Cond.instanceMethod yX0_read ∈ pq_G ∧ Cond.selects yX0_read.cls yX0_read yX0_read ∈ pq_G := ⟨pq_t2 116 rfl rfl, pq_t2 117 rfl rfl, pq_t2 118 rfl rfl⟩
set_option maxRecDepth 8000 in
theorem lv_X10_101 : Cond.methodLink RX10 101 yX6_perform ∈ pq_G ∧ Cond.instanceMethod yX6_perform ∈ pq_G ∧ Cond.selects yX6_perform.cls yX6_perform yX6_perform ∈ pq_G := ⟨pq_t2 199 rfl rfl, pq_t2 200 rfl rfl, pq_t2 201 rfl rfl⟩
set_option maxRecDepth 8000 in
theorem lv_X10_107 : Cond.methodLink RX10 107 yX6_lacks ∈ pq_G ∧ Cond.instanceMethod yX6_lacks ∈ pq_G ∧ Cond.selects yX6_lacks.cls yX6_lacks yX6_lacks ∈ pq_G := ⟨pq_t3 67 rfl rfl, pq_t2 208 rfl rfl, pq_t2 209 rfl rfl⟩
set_option maxRecDepth 8000 in
theorem lv_X10_111 : Cond.methodLink RX10 111 yX10_lacksTerm ∈ pq_G ∧ Cond.instanceMethod yX10_lacksTerm ∈ pq_G ∧ Cond.selects yX10_lacksTerm.cls yX10_lacksTerm yX10_lacksTerm ∈ pq_G := ⟨pq_t3 68 rfl rfl, pq_t3 70 rfl rfl, pq_t0 13 rfl rfl⟩
set_option maxRecDepth 8000 in
theorem lv_X10_115 : Cond.methodLink RX10 115 yX10_refuseFarInt ∈ pq_G ∧ Cond.instanceMethod yX10_refuseFarInt ∈ pq_G ∧ Cond.selects yX10_refuseFarInt.cls yX10_refuseFarInt yX10_refuseFarInt ∈ pq_G := ⟨pq_t3 73 rfl rfl, pq_t3 75 rfl rfl, pq_t0 14 rfl rfl⟩
set_option maxRecDepth 8000 in
theorem lv_X10_125 : Cond.methodLink RX10 125 yX8_add ∈ pq_G ∧ Cond.instanceMethod yX8_add ∈ pq_G ∧ Cond.selects yX8_add.cls yX8_add yX8_add ∈ pq_G := ⟨pq_t3 80 rfl rfl, pq_t3 81 rfl rfl, pq_t3 82 rfl rfl⟩
set_option maxRecDepth 8000 in
theorem lv_X10_128 : Cond.methodLink RX10 128 yX10_notBelow ∈ pq_G ∧ Cond.static yX10_notBelow ∈ pq_G := ⟨pq_t3 72 rfl rfl, pq_t2 82 rfl rfl⟩
set_option maxRecDepth 8000 in
theorem lv_X10_140 : Cond.methodLink RX10 140 yX10_termsOf ∈ pq_G ∧ Cond.static yX10_termsOf ∈ pq_G := ⟨pq_t2 236 rfl rfl, pq_t2 225 rfl rfl⟩
set_option maxRecDepth 8000 in
theorem lv_X10_143 : Cond.methodLink RX10 143 yX1_howMany ∈ pq_G ∧ Cond.instanceMethod yX1_howMany ∈ pq_G ∧ Cond.selects yX1_howMany.cls yX1_howMany yX1_howMany ∈ pq_G := ⟨pq_t3 95 rfl rfl, pq_t3 96 rfl rfl, pq_t3 97 rfl rfl⟩
set_option maxRecDepth 8000 in
theorem lv_X10_146 : Cond.methodLink RX10 146 yX10_isUnder ∈ pq_G ∧ Cond.static yX10_isUnder ∈ pq_G := ⟨pq_t3 105 rfl rfl, pq_t3 106 rfl rfl⟩
set_option maxRecDepth 8000 in
theorem lv_X10_149 : Cond.methodLink RX10 149 yX1_at ∈ pq_G ∧ Cond.instanceMethod yX1_at ∈ pq_G ∧ Cond.selects yX1_at.cls yX1_at yX1_at ∈ pq_G := ⟨pq_t3 114 rfl rfl, pq_t3 2 rfl rfl, pq_t3 3 rfl rfl⟩
set_option maxRecDepth 8000 in
theorem lv_X10_152 : Cond.methodLink RX10 152 yX10_refuseFar ∈ pq_G ∧ Cond.instanceMethod yX10_refuseFar ∈ pq_G ∧ Cond.selects yX10_refuseFar.cls yX10_refuseFar yX10_refuseFar ∈ pq_G := ⟨pq_t3 119 rfl rfl, pq_t3 121 rfl rfl, pq_t0 15 rfl rfl⟩
set_option maxRecDepth 8000 in
theorem lv_X10_156 : Cond.methodLink RX10 156 yX10_workOn ∈ pq_G ∧ Cond.instanceMethod yX10_workOn ∈ pq_G ∧ Cond.selects yX10_workOn.cls yX10_workOn yX10_workOn ∈ pq_G := ⟨pq_t3 124 rfl rfl, pq_t3 126 rfl rfl, pq_t0 16 rfl rfl⟩
set_option maxRecDepth 8000 in
theorem lv_X10_160 : Cond.methodLink RX10 160 yX9_worth ∈ pq_G ∧ Cond.instanceMethod yX9_worth ∈ pq_G ∧ Cond.selects yX9_worth.cls yX9_worth yX9_worth ∈ pq_G := ⟨pq_t3 129 rfl rfl, pq_t3 130 rfl rfl, pq_t3 131 rfl rfl⟩
set_option maxRecDepth 8000 in
theorem lv_X10_166 : Cond.methodLink RX10 166 yX10_isSide ∈ pq_G ∧ Cond.static yX10_isSide ∈ pq_G := ⟨pq_t3 137 rfl rfl, pq_t3 52 rfl rfl⟩
set_option maxRecDepth 8000 in
theorem lv_X10_169 : Cond.methodLink RX10 169 yX10_placesOn ∈ pq_G ∧ Cond.static yX10_placesOn ∈ pq_G := ⟨pq_t3 138 rfl rfl, pq_t2 228 rfl rfl⟩
set_option maxRecDepth 8000 in
theorem lv_X10_173 : Cond.methodLink RX10 173 yX9_raise ∈ pq_G ∧ Cond.instanceMethod yX9_raise ∈ pq_G ∧ Cond.selects yX9_raise.cls yX9_raise yX9_raise ∈ pq_G := ⟨pq_t3 139 rfl rfl, pq_t3 39 rfl rfl, pq_t3 40 rfl rfl⟩
set_option maxRecDepth 8000 in
theorem lv_X10_177 : Cond.methodLink RX10 177 yX9_among ∈ pq_G ∧ Cond.instanceMethod yX9_among ∈ pq_G ∧ Cond.selects yX9_among.cls yX9_among yX9_among ∈ pq_G := ⟨pq_t3 140 rfl rfl, pq_t3 141 rfl rfl, pq_t3 142 rfl rfl⟩
set_option maxRecDepth 8000 in
theorem lv_X10_181 : Cond.methodLink RX10 181 yX9_firstFault ∈ pq_G ∧ Cond.instanceMethod yX9_firstFault ∈ pq_G ∧ Cond.selects yX9_firstFault.cls yX9_firstFault yX9_firstFault ∈ pq_G := ⟨pq_t3 148 rfl rfl, pq_t3 149 rfl rfl, pq_t3 150 rfl rfl⟩
set_option maxRecDepth 8000 in
theorem lv_X10_184 : Cond.methodLink RX10 184 yX9_leastLift ∈ pq_G ∧ Cond.instanceMethod yX9_leastLift ∈ pq_G ∧ Cond.selects yX9_leastLift.cls yX9_leastLift yX9_leastLift ∈ pq_G := ⟨pq_t3 160 rfl rfl, pq_t3 161 rfl rfl, pq_t3 162 rfl rfl⟩
set_option maxRecDepth 8000 in
theorem lv_X10_187 : Cond.methodLink RX10 187 yX9_failingSize ∈ pq_G ∧ Cond.instanceMethod yX9_failingSize ∈ pq_G ∧ Cond.selects yX9_failingSize.cls yX9_failingSize yX9_failingSize ∈ pq_G := ⟨pq_t3 169 rfl rfl, pq_t3 170 rfl rfl, pq_t3 171 rfl rfl⟩
set_option maxRecDepth 8000 in
theorem lv_X10_190 : Cond.methodLink RX10 190 yX9_failingPoint ∈ pq_G ∧ Cond.instanceMethod yX9_failingPoint ∈ pq_G ∧ Cond.selects yX9_failingPoint.cls yX9_failingPoint yX9_failingPoint ∈ pq_G := ⟨pq_t3 183 rfl rfl, pq_t3 174 rfl rfl, pq_t3 175 rfl rfl⟩
set_option maxRecDepth 8000 in
theorem lv_X10_194 : Cond.methodLink RX10 194 yX10_pointsRefused ∈ pq_G ∧ Cond.instanceMethod yX10_pointsRefused ∈ pq_G ∧ Cond.selects yX10_pointsRefused.cls yX10_pointsRefused yX10_pointsRefused ∈ pq_G := ⟨pq_t3 188 rfl rfl, pq_t3 190 rfl rfl, pq_t0 17 rfl rfl⟩
set_option maxRecDepth 8000 in
theorem lv_X10_198 : Cond.methodLink RX10 198 yX9_lowestPoint ∈ pq_G ∧ Cond.instanceMethod yX9_lowestPoint ∈ pq_G ∧ Cond.selects yX9_lowestPoint.cls yX9_lowestPoint yX9_lowestPoint ∈ pq_G := ⟨pq_t3 192 rfl rfl, pq_t3 193 rfl rfl, pq_t3 194 rfl rfl⟩
set_option maxRecDepth 8000 in
theorem lv_X10_201 : Cond.methodLink RX10 201 yX9_worthAt ∈ pq_G ∧ Cond.instanceMethod yX9_worthAt ∈ pq_G ∧ Cond.selects yX9_worthAt.cls yX9_worthAt yX9_worthAt ∈ pq_G := ⟨pq_t3 196 rfl rfl, pq_t3 178 rfl rfl, pq_t3 179 rfl rfl⟩
set_option maxRecDepth 8000 in
theorem lv_X10_204 : Cond.methodLink RX10 204 yX9_pointsAbove ∈ pq_G ∧ Cond.instanceMethod yX9_pointsAbove ∈ pq_G ∧ Cond.selects yX9_pointsAbove.cls yX9_pointsAbove yX9_pointsAbove ∈ pq_G := ⟨pq_t3 201 rfl rfl, pq_t3 202 rfl rfl, pq_t3 203 rfl rfl⟩
set_option maxRecDepth 8000 in
theorem lv_X10_207 : Cond.methodLink RX10 207 yX10_partOf ∈ pq_G ∧ Cond.static yX10_partOf ∈ pq_G := ⟨pq_t3 205 rfl rfl, pq_t3 206 rfl rfl⟩
set_option maxRecDepth 8000 in
theorem lv_X10_211 : Cond.methodLink RX10 211 yX4_misses ∈ pq_G ∧ Cond.instanceMethod yX4_misses ∈ pq_G ∧ Cond.selects yX4_misses.cls yX4_misses yX4_misses ∈ pq_G := ⟨pq_t3 222 rfl rfl, pq_t3 223 rfl rfl, pq_t3 224 rfl rfl⟩
set_option maxRecDepth 8000 in
theorem lv_X10_214 : Cond.methodLink RX10 214 yX4_isPolynomial ∈ pq_G ∧ Cond.instanceMethod yX4_isPolynomial ∈ pq_G ∧ Cond.selects yX4_isPolynomial.cls yX4_isPolynomial yX4_isPolynomial ∈ pq_G := ⟨pq_t3 226 rfl rfl, pq_t3 227 rfl rfl, pq_t3 228 rfl rfl⟩
set_option maxRecDepth 8000 in
theorem lv_X10_219 : Cond.methodLink RX10 219 yX4_wall ∈ pq_G ∧ Cond.instanceMethod yX4_wall ∈ pq_G ∧ Cond.selects yX4_wall.cls yX4_wall yX4_wall ∈ pq_G := ⟨pq_t3 232 rfl rfl, pq_t3 233 rfl rfl, pq_t3 234 rfl rfl⟩
set_option maxRecDepth 8000 in
theorem lv_X10_227 : Cond.methodLink RX10 227 yX4_wallsClear ∈ pq_G ∧ Cond.instanceMethod yX4_wallsClear ∈ pq_G ∧ Cond.selects yX4_wallsClear.cls yX4_wallsClear yX4_wallsClear ∈ pq_G := ⟨pq_t4 6 rfl rfl, pq_t4 7 rfl rfl, pq_t4 8 rfl rfl⟩
set_option maxRecDepth 8000 in
theorem lv_X10_231 : Cond.methodLink RX10 231 yX6_lacksOf ∈ pq_G ∧ Cond.instanceMethod yX6_lacksOf ∈ pq_G ∧ Cond.selects yX6_lacksOf.cls yX6_lacksOf yX6_lacksOf ∈ pq_G := ⟨pq_t4 16 rfl rfl, pq_t4 17 rfl rfl, pq_t4 18 rfl rfl⟩
set_option maxRecDepth 8000 in
theorem lv_X10_234 : Cond.methodLink RX10 234 yX6_canMake ∈ pq_G ∧ Cond.instanceMethod yX6_canMake ∈ pq_G ∧ Cond.selects yX6_canMake.cls yX6_canMake yX6_canMake ∈ pq_G := ⟨pq_t4 20 rfl rfl, pq_t4 21 rfl rfl, pq_t4 22 rfl rfl⟩
set_option maxRecDepth 8000 in
theorem lv_X10_237 : Cond.methodLink RX10 237 yX5_makes ∈ pq_G ∧ Cond.instanceMethod yX5_makes ∈ pq_G ∧ Cond.selects yX5_makes.cls yX5_makes yX5_makes ∈ pq_G := ⟨pq_t4 31 rfl rfl, pq_t4 32 rfl rfl, pq_t4 33 rfl rfl⟩
set_option maxRecDepth 8000 in
theorem lv_X10_241 : Cond.methodLink RX10 241 yX5_fraction ∈ pq_G ∧ Cond.instanceMethod yX5_fraction ∈ pq_G ∧ Cond.selects yX5_fraction.cls yX5_fraction yX5_fraction ∈ pq_G := ⟨pq_t4 53 rfl rfl, pq_t4 54 rfl rfl, pq_t4 55 rfl rfl⟩
set_option maxRecDepth 8000 in
theorem lv_X10_244 : Cond.methodLink RX10 244 yX6_bringSum ∈ pq_G ∧ Cond.instanceMethod yX6_bringSum ∈ pq_G ∧ Cond.selects yX6_bringSum.cls yX6_bringSum yX6_bringSum ∈ pq_G := ⟨pq_t4 63 rfl rfl, pq_t2 213 rfl rfl, pq_t2 214 rfl rfl⟩
set_option maxRecDepth 8000 in
theorem lv_X10_247 : Cond.methodLink RX10 247 yX6_bringProduct ∈ pq_G ∧ Cond.instanceMethod yX6_bringProduct ∈ pq_G ∧ Cond.selects yX6_bringProduct.cls yX6_bringProduct yX6_bringProduct ∈ pq_G := ⟨pq_t4 68 rfl rfl, pq_t3 24 rfl rfl, pq_t3 25 rfl rfl⟩
set_option maxRecDepth 8000 in
theorem lv_X10_250 : Cond.methodLink RX10 250 yX6_bringLift ∈ pq_G ∧ Cond.instanceMethod yX6_bringLift ∈ pq_G ∧ Cond.selects yX6_bringLift.cls yX6_bringLift yX6_bringLift ∈ pq_G := ⟨pq_t4 73 rfl rfl, pq_t3 35 rfl rfl, pq_t3 36 rfl rfl⟩
set_option maxRecDepth 8000 in
theorem lv_X10_253 : Cond.methodLink RX10 253 yX6_bringNegative ∈ pq_G ∧ Cond.instanceMethod yX6_bringNegative ∈ pq_G ∧ Cond.selects yX6_bringNegative.cls yX6_bringNegative yX6_bringNegative ∈ pq_G := ⟨pq_t4 78 rfl rfl, pq_t3 48 rfl rfl, pq_t3 49 rfl rfl⟩
set_option maxRecDepth 8000 in
theorem lv_X10_256 : Cond.methodLink RX10 256 yX6_bringOn ∈ pq_G ∧ Cond.instanceMethod yX6_bringOn ∈ pq_G ∧ Cond.selects yX6_bringOn.cls yX6_bringOn yX6_bringOn ∈ pq_G := ⟨pq_t4 83 rfl rfl, pq_t3 55 rfl rfl, pq_t3 56 rfl rfl⟩
set_option maxRecDepth 8000 in
theorem lv_X10_259 : Cond.methodLink RX10 259 yX7_spell ∈ pq_G ∧ Cond.instanceMethod yX7_spell ∈ pq_G ∧ Cond.selects yX7_spell.cls yX7_spell yX7_spell ∈ pq_G := ⟨pq_t4 88 rfl rfl, pq_t4 89 rfl rfl, pq_t4 90 rfl rfl⟩
set_option maxRecDepth 8000 in
theorem lv_X10_269 : Cond.methodLink RX10 269 yX10_drawLots ∈ pq_G ∧ Cond.static yX10_drawLots ∈ pq_G := ⟨pq_t4 114 rfl rfl, pq_t4 115 rfl rfl⟩
set_option maxRecDepth 8000 in
theorem lv_X10_273 : Cond.methodLink RX10 273 yX4_renew ∈ pq_G ∧ Cond.instanceMethod yX4_renew ∈ pq_G ∧ Cond.selects yX4_renew.cls yX4_renew yX4_renew ∈ pq_G := ⟨pq_t4 130 rfl rfl, pq_t4 131 rfl rfl, pq_t4 132 rfl rfl⟩
set_option maxRecDepth 8000 in
theorem lv_X10_280 : Cond.methodLink RX10 280 yX8_takeBack ∈ pq_G ∧ Cond.instanceMethod yX8_takeBack ∈ pq_G ∧ Cond.selects yX8_takeBack.cls yX8_takeBack yX8_takeBack ∈ pq_G := ⟨pq_t4 154 rfl rfl, pq_t4 155 rfl rfl, pq_t4 156 rfl rfl⟩
set_option maxRecDepth 8000 in
theorem lv_X10_284 : Cond.methodLink RX10 284 yX6_keepImage ∈ pq_G ∧ Cond.instanceMethod yX6_keepImage ∈ pq_G ∧ Cond.selects yX6_keepImage.cls yX6_keepImage yX6_keepImage ∈ pq_G := ⟨pq_t4 163 rfl rfl, pq_t4 164 rfl rfl, pq_t4 165 rfl rfl⟩
set_option maxRecDepth 8000 in
theorem lv_X10_290 : Cond.methodLink RX10 290 yX6_restoreImage ∈ pq_G ∧ Cond.instanceMethod yX6_restoreImage ∈ pq_G ∧ Cond.selects yX6_restoreImage.cls yX6_restoreImage yX6_restoreImage ∈ pq_G := ⟨pq_t4 175 rfl rfl, pq_t4 176 rfl rfl, pq_t4 177 rfl rfl⟩
set_option maxRecDepth 8000 in
theorem lv_X10_293 : Cond.methodLink RX10 293 yX6_termsOfAll ∈ pq_G ∧ Cond.instanceMethod yX6_termsOfAll ∈ pq_G ∧ Cond.selects yX6_termsOfAll.cls yX6_termsOfAll yX6_termsOfAll ∈ pq_G := ⟨pq_t4 183 rfl rfl, pq_t4 184 rfl rfl, pq_t4 185 rfl rfl⟩
set_option maxRecDepth 8000 in
theorem lv_X10_297 : Cond.methodLink RX10 297 yX6_clearForms ∈ pq_G ∧ Cond.instanceMethod yX6_clearForms ∈ pq_G ∧ Cond.selects yX6_clearForms.cls yX6_clearForms yX6_clearForms ∈ pq_G := ⟨pq_t4 187 rfl rfl, pq_t4 188 rfl rfl, pq_t4 189 rfl rfl⟩
set_option maxRecDepth 8000 in
theorem lv_X10_307 : Cond.methodLink RX10 307 yX9_takeOn ∈ pq_G ∧ Cond.instanceMethod yX9_takeOn ∈ pq_G ∧ Cond.selects yX9_takeOn.cls yX9_takeOn yX9_takeOn ∈ pq_G := ⟨pq_t3 128 rfl rfl, pq_t2 217 rfl rfl, pq_t2 218 rfl rfl⟩
set_option maxRecDepth 8000 in
theorem lv_X10_310 : Cond.methodLink RX10 310 yX10_termOf ∈ pq_G ∧ Cond.static yX10_termOf ∈ pq_G := ⟨pq_t3 0 rfl rfl, pq_t2 106 rfl rfl⟩
set_option maxRecDepth 8000 in
theorem lv_X10_316 : Cond.methodLink RX10 316 yJ6_bitCount_0f7a4 ∈ pq_G ∧ Cond.static yJ6_bitCount_0f7a4 ∈ pq_G := ⟨pq_t2 230 rfl rfl, pq_t2 231 rfl rfl⟩
set_option maxRecDepth 8000 in
theorem lv_X10_325 : Cond.methodLink RX10 325 yX10_commonOf ∈ pq_G ∧ Cond.static yX10_commonOf ∈ pq_G := ⟨pq_t3 211 rfl rfl, pq_t3 212 rfl rfl⟩
set_option maxRecDepth 8000 in
theorem lv_X10_329 : Cond.methodLink RX10 329 yX10_nextSeed ∈ pq_G ∧ Cond.static yX10_nextSeed ∈ pq_G := ⟨pq_t4 117 rfl rfl, pq_t4 118 rfl rfl⟩
set_option maxRecDepth 8000 in
theorem lv_X10_332 : Cond.methodLink RX10 332 yX10_drawOf ∈ pq_G ∧ Cond.static yX10_drawOf ∈ pq_G := ⟨pq_t4 122 rfl rfl, pq_t4 123 rfl rfl⟩
set_option maxRecDepth 8000 in
theorem lv_X0_35 : Cond.methodLink RX0 35 yX0_readAct ∈ pq_G ∧ Cond.instanceMethod yX0_readAct ∈ pq_G ∧ Cond.selects yX0_readAct.cls yX0_readAct yX0_readAct ∈ pq_G := ⟨pq_t2 120 rfl rfl, pq_t2 122 rfl rfl, pq_t0 6 rfl rfl⟩
set_option maxRecDepth 8000 in
theorem lv_X0_42 : Cond.methodLink RX0 42 yX3_at ∈ pq_G ∧ Cond.instanceMethod yX3_at ∈ pq_G ∧ Cond.selects yX3_at.cls yX3_at yX3_at ∈ pq_G := ⟨pq_t2 197 rfl rfl, pq_t2 78 rfl rfl, pq_t2 79 rfl rfl⟩
set_option maxRecDepth 8000 in
theorem lv_X0_46 : Cond.methodLink RX0 46 yX0_wordAt ∈ pq_G ∧ Cond.instanceMethod yX0_wordAt ∈ pq_G ∧ Cond.selects yX0_wordAt.cls yX0_wordAt yX0_wordAt ∈ pq_G := ⟨pq_t2 124 rfl rfl, pq_t2 126 rfl rfl, pq_t0 7 rfl rfl⟩
set_option maxRecDepth 8000 in
theorem lv_X0_49 : Cond.methodLink RX0 49 yX0_textOf ∈ pq_G ∧ Cond.static yX0_textOf ∈ pq_G := ⟨pq_t2 132 rfl rfl, pq_t2 133 rfl rfl⟩
set_option maxRecDepth 8000 in
theorem lv_X0_59 : Cond.methodLink RX0 59 yX0_readNumber ∈ pq_G ∧ Cond.instanceMethod yX0_readNumber ∈ pq_G ∧ Cond.selects yX0_readNumber.cls yX0_readNumber yX0_readNumber ∈ pq_G := ⟨pq_t2 193 rfl rfl, pq_t2 195 rfl rfl, pq_t0 8 rfl rfl⟩
set_option maxRecDepth 8000 in
theorem lv_X0_62 : Cond.methodLink RX0 62 yX3_hasDigit ∈ pq_G ∧ Cond.instanceMethod yX3_hasDigit ∈ pq_G ∧ Cond.selects yX3_hasDigit.cls yX3_hasDigit yX3_hasDigit ∈ pq_G := ⟨pq_t2 198 rfl rfl, pq_t2 93 rfl rfl, pq_t2 94 rfl rfl⟩
set_option maxRecDepth 8000 in
theorem lv_X0_66 : Cond.methodLink RX0 66 yX3_hasSmall ∈ pq_G ∧ Cond.instanceMethod yX3_hasSmall ∈ pq_G ∧ Cond.selects yX3_hasSmall.cls yX3_hasSmall yX3_hasSmall ∈ pq_G := ⟨pq_t2 128 rfl rfl, pq_t2 129 rfl rfl, pq_t2 130 rfl rfl⟩
set_option maxRecDepth 8000 in
theorem lv_X0_69 : Cond.methodLink RX0 69 yX3_hasText ∈ pq_G ∧ Cond.instanceMethod yX3_hasText ∈ pq_G ∧ Cond.selects yX3_hasText.cls yX3_hasText yX3_hasText ∈ pq_G := ⟨pq_t2 150 rfl rfl, pq_t2 151 rfl rfl, pq_t2 152 rfl rfl⟩
set_option maxRecDepth 8000 in
theorem lv_X1_25 : Cond.static yX10_termOf ∈ pq_G := pq_t2 106 rfl rfl
set_option maxRecDepth 8000 in
theorem lv_X1_29 : Cond.static yX10_behindA ∈ pq_G := pq_t3 6 rfl rfl
set_option maxRecDepth 8000 in
theorem lv_X1_33 : Cond.methodLink RX1 33 yX1_has ∈ pq_G ∧ Cond.instanceMethod yX1_has ∈ pq_G ∧ Cond.selects yX1_has.cls yX1_has yX1_has ∈ pq_G := ⟨pq_t3 9 rfl rfl, pq_t3 10 rfl rfl, pq_t3 11 rfl rfl⟩
set_option maxRecDepth 8000 in
theorem lv_X1_37 : Cond.static yX10_termsOf ∈ pq_G := pq_t2 225 rfl rfl
set_option maxRecDepth 8000 in
theorem lv_X1_40 : Cond.methodLink RX1 40 yX1_at ∈ pq_G ∧ Cond.instanceMethod yX1_at ∈ pq_G ∧ Cond.selects yX1_at.cls yX1_at yX1_at ∈ pq_G := ⟨pq_t3 100 rfl rfl, pq_t3 2 rfl rfl, pq_t3 3 rfl rfl⟩
set_option maxRecDepth 8000 in
theorem lv_X2_26 : Cond.methodLink RX2 26 yX1_makeNought ∈ pq_G ∧ Cond.instanceMethod yX1_makeNought ∈ pq_G ∧ Cond.selects yX1_makeNought.cls yX1_makeNought yX1_makeNought ∈ pq_G := ⟨pq_t2 73 rfl rfl, pq_t2 74 rfl rfl, pq_t2 75 rfl rfl⟩
set_option maxRecDepth 8000 in
theorem lv_X2_31 : Cond.methodLink RX2 31 yX3_at ∈ pq_G ∧ Cond.instanceMethod yX3_at ∈ pq_G ∧ Cond.selects yX3_at.cls yX3_at yX3_at ∈ pq_G := ⟨pq_t2 77 rfl rfl, pq_t2 78 rfl rfl, pq_t2 79 rfl rfl⟩
set_option maxRecDepth 8000 in
theorem lv_X2_37 : Cond.methodLink RX2 37 yX2_readMember ∈ pq_G ∧ Cond.instanceMethod yX2_readMember ∈ pq_G ∧ Cond.selects yX2_readMember.cls yX2_readMember yX2_readMember ∈ pq_G := ⟨pq_t2 84 rfl rfl, pq_t2 86 rfl rfl, pq_t0 1 rfl rfl⟩
set_option maxRecDepth 8000 in
theorem lv_X2_47 : Cond.methodLink RX2 47 yX2_readNumber ∈ pq_G ∧ Cond.instanceMethod yX2_readNumber ∈ pq_G ∧ Cond.selects yX2_readNumber.cls yX2_readNumber yX2_readNumber ∈ pq_G := ⟨pq_t2 88 rfl rfl, pq_t2 90 rfl rfl, pq_t0 2 rfl rfl⟩
set_option maxRecDepth 8000 in
theorem lv_X2_52 : Cond.methodLink RX2 52 yX2_readPower ∈ pq_G ∧ Cond.instanceMethod yX2_readPower ∈ pq_G ∧ Cond.selects yX2_readPower.cls yX2_readPower yX2_readPower ∈ pq_G := ⟨pq_t2 97 rfl rfl, pq_t2 99 rfl rfl, pq_t0 3 rfl rfl⟩
set_option maxRecDepth 8000 in
theorem lv_X2_59 : Cond.static yX10_termOf ∈ pq_G := pq_t2 106 rfl rfl
set_option maxRecDepth 8000 in
theorem lv_X2_63 : Cond.methodLink RX2 63 yX3_hasDigit ∈ pq_G ∧ Cond.instanceMethod yX3_hasDigit ∈ pq_G ∧ Cond.selects yX3_hasDigit.cls yX3_hasDigit yX3_hasDigit ∈ pq_G := ⟨pq_t2 92 rfl rfl, pq_t2 93 rfl rfl, pq_t2 94 rfl rfl⟩
set_option maxRecDepth 8000 in
theorem lv_X2_66 : Cond.methodLink RX2 66 yX2_fits ∈ pq_G ∧ Cond.instanceMethod yX2_fits ∈ pq_G ∧ Cond.selects yX2_fits.cls yX2_fits yX2_fits ∈ pq_G := ⟨pq_t2 101 rfl rfl, pq_t2 103 rfl rfl, pq_t0 4 rfl rfl⟩
set_option maxRecDepth 8000 in
theorem lv_X3_19 : Cond.static yX10_notBelow ∈ pq_G := pq_t2 82 rfl rfl
set_option maxRecDepth 8000 in
theorem lv_X3_23 : Cond.methodLink RX3 23 yX3_at ∈ pq_G ∧ Cond.instanceMethod yX3_at ∈ pq_G ∧ Cond.selects yX3_at.cls yX3_at yX3_at ∈ pq_G := ⟨pq_t2 96 rfl rfl, pq_t2 78 rfl rfl, pq_t2 79 rfl rfl⟩
set_option maxRecDepth 8000 in
theorem lv_X4_22 : Cond.methodLink RX4 22 yX4_ways ∈ pq_G ∧ Cond.static yX4_ways ∈ pq_G := ⟨pq_t3 236 rfl rfl, pq_t3 237 rfl rfl⟩
set_option maxRecDepth 8000 in
theorem lv_X4_26 : Cond.methodLink RX4 26 yX4_wall ∈ pq_G ∧ Cond.instanceMethod yX4_wall ∈ pq_G ∧ Cond.selects yX4_wall.cls yX4_wall yX4_wall ∈ pq_G := ⟨pq_t4 10 rfl rfl, pq_t3 233 rfl rfl, pq_t3 234 rfl rfl⟩
set_option maxRecDepth 8000 in
theorem lv_X4_30 : Cond.static yX10_fails ∈ pq_G := pq_t3 154 rfl rfl
set_option maxRecDepth 8000 in
theorem lv_X5_32 : Cond.static yX10_termsOf ∈ pq_G := pq_t2 225 rfl rfl
set_option maxRecDepth 8000 in
theorem lv_X5_45 : Cond.methodLink RX5 45 yX5_fill ∈ pq_G ∧ Cond.instanceMethod yX5_fill ∈ pq_G ∧ Cond.selects yX5_fill.cls yX5_fill yX5_fill ∈ pq_G := ⟨pq_t4 36 rfl rfl, pq_t4 38 rfl rfl, pq_t0 18 rfl rfl⟩
set_option maxRecDepth 8000 in
theorem lv_X5_49 : Cond.methodLink RX5 49 yX5_lead ∈ pq_G ∧ Cond.instanceMethod yX5_lead ∈ pq_G ∧ Cond.selects yX5_lead.cls yX5_lead yX5_lead ∈ pq_G := ⟨pq_t4 41 rfl rfl, pq_t4 43 rfl rfl, pq_t0 19 rfl rfl⟩
set_option maxRecDepth 8000 in
theorem lv_X5_53 : Cond.methodLink RX5 53 yX5_leader ∈ pq_G ∧ Cond.instanceMethod yX5_leader ∈ pq_G ∧ Cond.selects yX5_leader.cls yX5_leader yX5_leader ∈ pq_G := ⟨pq_t4 45 rfl rfl, pq_t4 47 rfl rfl, pq_t0 20 rfl rfl⟩
set_option maxRecDepth 8000 in
theorem lv_X5_56 : Cond.methodLink RX5 56 yX1_at ∈ pq_G ∧ Cond.instanceMethod yX1_at ∈ pq_G ∧ Cond.selects yX1_at.cls yX1_at yX1_at ∈ pq_G := ⟨pq_t4 40 rfl rfl, pq_t3 2 rfl rfl, pq_t3 3 rfl rfl⟩
set_option maxRecDepth 8000 in
theorem lv_X5_59 : Cond.methodLink RX5 59 yX5_takeAway ∈ pq_G ∧ Cond.instanceMethod yX5_takeAway ∈ pq_G ∧ Cond.selects yX5_takeAway.cls yX5_takeAway yX5_takeAway ∈ pq_G := ⟨pq_t4 49 rfl rfl, pq_t4 51 rfl rfl, pq_t0 21 rfl rfl⟩
set_option maxRecDepth 8000 in
theorem lv_X5_63 : Cond.methodLink RX5 63 yJ6_bitCount_0f7a4 ∈ pq_G ∧ Cond.static yJ6_bitCount_0f7a4 ∈ pq_G := ⟨pq_t4 57 rfl rfl, pq_t2 231 rfl rfl⟩
set_option maxRecDepth 8000 in
theorem lv_X5_68 : Cond.static yX10_partOf ∈ pq_G := pq_t3 206 rfl rfl
set_option maxRecDepth 8000 in
theorem lv_X6_35 : Cond.static yX10_notBelow ∈ pq_G := pq_t2 82 rfl rfl
set_option maxRecDepth 8000 in
theorem lv_X6_39 : Cond.methodLink RX6 39 yX1_copyOf ∈ pq_G ∧ Cond.instanceMethod yX1_copyOf ∈ pq_G ∧ Cond.selects yX1_copyOf.cls yX1_copyOf yX1_copyOf ∈ pq_G := ⟨pq_t4 167 rfl rfl, pq_t4 168 rfl rfl, pq_t4 169 rfl rfl⟩
set_option maxRecDepth 8000 in
theorem lv_X6_46 : Cond.static yX10_termsOf ∈ pq_G := pq_t2 225 rfl rfl
set_option maxRecDepth 8000 in
theorem lv_X6_50 : Cond.methodLink RX6 50 yX1_howMany ∈ pq_G ∧ Cond.instanceMethod yX1_howMany ∈ pq_G ∧ Cond.selects yX1_howMany.cls yX1_howMany yX1_howMany ∈ pq_G := ⟨pq_t4 191 rfl rfl, pq_t3 96 rfl rfl, pq_t3 97 rfl rfl⟩
set_option maxRecDepth 8000 in
theorem lv_X6_54 : Cond.methodLink RX6 54 yJ6_bitCount_0f7a4 ∈ pq_G ∧ Cond.static yJ6_bitCount_0f7a4 ∈ pq_G := ⟨pq_t4 24 rfl rfl, pq_t2 231 rfl rfl⟩
set_option maxRecDepth 8000 in
theorem lv_X6_59 : Cond.methodLink RX6 59 yX6_isSmall ∈ pq_G ∧ Cond.static yX6_isSmall ∈ pq_G := ⟨pq_t4 25 rfl rfl, pq_t4 26 rfl rfl⟩
set_option maxRecDepth 8000 in
theorem lv_X6_63 : Cond.methodLink RX6 63 yX1_at ∈ pq_G ∧ Cond.instanceMethod yX1_at ∈ pq_G ∧ Cond.selects yX1_at.cls yX1_at yX1_at ∈ pq_G := ⟨pq_t3 14 rfl rfl, pq_t3 2 rfl rfl, pq_t3 3 rfl rfl⟩
set_option maxRecDepth 8000 in
theorem lv_X6_84 : Cond.methodLink RX6 84 yX6_performOne ∈ pq_G ∧ Cond.instanceMethod yX6_performOne ∈ pq_G ∧ Cond.selects yX6_performOne.cls yX6_performOne yX6_performOne ∈ pq_G := ⟨pq_t2 203 rfl rfl, pq_t2 205 rfl rfl, pq_t0 9 rfl rfl⟩
set_option maxRecDepth 8000 in
theorem lv_X6_91 : Cond.methodLink RX6 91 yX6_lacks ∈ pq_G ∧ Cond.instanceMethod yX6_lacks ∈ pq_G ∧ Cond.selects yX6_lacks.cls yX6_lacks yX6_lacks ∈ pq_G := ⟨pq_t2 207 rfl rfl, pq_t2 208 rfl rfl, pq_t2 209 rfl rfl⟩
set_option maxRecDepth 8000 in
theorem lv_X6_95 : Cond.methodLink RX6 95 yX6_bringSum ∈ pq_G ∧ Cond.instanceMethod yX6_bringSum ∈ pq_G ∧ Cond.selects yX6_bringSum.cls yX6_bringSum yX6_bringSum ∈ pq_G := ⟨pq_t2 212 rfl rfl, pq_t2 213 rfl rfl, pq_t2 214 rfl rfl⟩
set_option maxRecDepth 8000 in
theorem lv_X6_98 : Cond.methodLink RX6 98 yX6_bringProduct ∈ pq_G ∧ Cond.instanceMethod yX6_bringProduct ∈ pq_G ∧ Cond.selects yX6_bringProduct.cls yX6_bringProduct yX6_bringProduct ∈ pq_G := ⟨pq_t3 23 rfl rfl, pq_t3 24 rfl rfl, pq_t3 25 rfl rfl⟩
set_option maxRecDepth 8000 in
theorem lv_X6_101 : Cond.methodLink RX6 101 yX6_bringLift ∈ pq_G ∧ Cond.instanceMethod yX6_bringLift ∈ pq_G ∧ Cond.selects yX6_bringLift.cls yX6_bringLift yX6_bringLift ∈ pq_G := ⟨pq_t3 34 rfl rfl, pq_t3 35 rfl rfl, pq_t3 36 rfl rfl⟩
set_option maxRecDepth 8000 in
theorem lv_X6_104 : Cond.methodLink RX6 104 yX6_bringNegative ∈ pq_G ∧ Cond.instanceMethod yX6_bringNegative ∈ pq_G ∧ Cond.selects yX6_bringNegative.cls yX6_bringNegative yX6_bringNegative ∈ pq_G := ⟨pq_t3 47 rfl rfl, pq_t3 48 rfl rfl, pq_t3 49 rfl rfl⟩
set_option maxRecDepth 8000 in
theorem lv_X6_107 : Cond.static yX10_isSide ∈ pq_G := pq_t3 52 rfl rfl
set_option maxRecDepth 8000 in
theorem lv_X6_110 : Cond.methodLink RX6 110 yX6_bringOn ∈ pq_G ∧ Cond.instanceMethod yX6_bringOn ∈ pq_G ∧ Cond.selects yX6_bringOn.cls yX6_bringOn yX6_bringOn ∈ pq_G := ⟨pq_t3 54 rfl rfl, pq_t3 55 rfl rfl, pq_t3 56 rfl rfl⟩
set_option maxRecDepth 8000 in
theorem lv_X6_113 : Cond.methodLink RX6 113 yX9_takeOn ∈ pq_G ∧ Cond.instanceMethod yX9_takeOn ∈ pq_G ∧ Cond.selects yX9_takeOn.cls yX9_takeOn yX9_takeOn ∈ pq_G := ⟨pq_t2 216 rfl rfl, pq_t2 217 rfl rfl, pq_t2 218 rfl rfl⟩
set_option maxRecDepth 8000 in
theorem lv_X6_122 : Cond.methodLink RX6 122 yX6_settle ∈ pq_G ∧ Cond.instanceMethod yX6_settle ∈ pq_G ∧ Cond.selects yX6_settle.cls yX6_settle yX6_settle ∈ pq_G := ⟨pq_t3 15 rfl rfl, pq_t3 17 rfl rfl, pq_t0 10 rfl rfl⟩
set_option maxRecDepth 8000 in
theorem lv_X6_126 : Cond.methodLink RX6 126 yX9_makeNought ∈ pq_G ∧ Cond.instanceMethod yX9_makeNought ∈ pq_G ∧ Cond.selects yX9_makeNought.cls yX9_makeNought yX9_makeNought ∈ pq_G := ⟨pq_t3 27 rfl rfl, pq_t2 221 rfl rfl, pq_t2 222 rfl rfl⟩
set_option maxRecDepth 8000 in
theorem lv_X6_130 : Cond.methodLink RX6 130 yX1_has ∈ pq_G ∧ Cond.instanceMethod yX1_has ∈ pq_G ∧ Cond.selects yX1_has.cls yX1_has yX1_has ∈ pq_G := ⟨pq_t3 28 rfl rfl, pq_t3 10 rfl rfl, pq_t3 11 rfl rfl⟩
set_option maxRecDepth 8000 in
theorem lv_X6_134 : Cond.methodLink RX6 134 yX6_addTimes ∈ pq_G ∧ Cond.instanceMethod yX6_addTimes ∈ pq_G ∧ Cond.selects yX6_addTimes.cls yX6_addTimes yX6_addTimes ∈ pq_G := ⟨pq_t3 29 rfl rfl, pq_t3 31 rfl rfl, pq_t0 11 rfl rfl⟩
set_option maxRecDepth 8000 in
theorem lv_X6_138 : Cond.static yX10_termOf ∈ pq_G := pq_t2 106 rfl rfl
set_option maxRecDepth 8000 in
theorem lv_X6_142 : Cond.methodLink RX6 142 yX9_raise ∈ pq_G ∧ Cond.instanceMethod yX9_raise ∈ pq_G ∧ Cond.selects yX9_raise.cls yX9_raise yX9_raise ∈ pq_G := ⟨pq_t3 38 rfl rfl, pq_t3 39 rfl rfl, pq_t3 40 rfl rfl⟩
set_option maxRecDepth 8000 in
theorem lv_X6_146 : Cond.methodLink RX6 146 yX6_isFull ∈ pq_G ∧ Cond.instanceMethod yX6_isFull ∈ pq_G ∧ Cond.selects yX6_isFull.cls yX6_isFull yX6_isFull ∈ pq_G := ⟨pq_t3 19 rfl rfl, pq_t2 66 rfl rfl, pq_t2 67 rfl rfl⟩
set_option maxRecDepth 8000 in
theorem lv_X6_153 : Cond.methodLink RX6 153 yX1_makeNought ∈ pq_G ∧ Cond.instanceMethod yX1_makeNought ∈ pq_G ∧ Cond.selects yX1_makeNought.cls yX1_makeNought yX1_makeNought ∈ pq_G := ⟨pq_t3 22 rfl rfl, pq_t2 74 rfl rfl, pq_t2 75 rfl rfl⟩
set_option maxRecDepth 8000 in
theorem lv_X7_26 : Cond.methodLink RX7 26 yX7_spellTerm ∈ pq_G ∧ Cond.instanceMethod yX7_spellTerm ∈ pq_G ∧ Cond.selects yX7_spellTerm.cls yX7_spellTerm yX7_spellTerm ∈ pq_G := ⟨pq_t4 92 rfl rfl, pq_t4 94 rfl rfl, pq_t0 22 rfl rfl⟩
set_option maxRecDepth 8000 in
theorem lv_X7_30 : Cond.methodLink RX7 30 yX7_add ∈ pq_G ∧ Cond.instanceMethod yX7_add ∈ pq_G ∧ Cond.selects yX7_add.cls yX7_add yX7_add ∈ pq_G := ⟨pq_t4 97 rfl rfl, pq_t4 99 rfl rfl, pq_t0 23 rfl rfl⟩
set_option maxRecDepth 8000 in
theorem lv_X7_34 : Cond.methodLink RX7 34 yX1_has ∈ pq_G ∧ Cond.instanceMethod yX1_has ∈ pq_G ∧ Cond.selects yX1_has.cls yX1_has yX1_has ∈ pq_G := ⟨pq_t4 96 rfl rfl, pq_t3 10 rfl rfl, pq_t3 11 rfl rfl⟩
set_option maxRecDepth 8000 in
theorem lv_X7_44 : Cond.methodLink RX7 44 yX7_spellNumber ∈ pq_G ∧ Cond.instanceMethod yX7_spellNumber ∈ pq_G ∧ Cond.selects yX7_spellNumber.cls yX7_spellNumber yX7_spellNumber ∈ pq_G := ⟨pq_t4 102 rfl rfl, pq_t4 104 rfl rfl, pq_t0 24 rfl rfl⟩
set_option maxRecDepth 8000 in
theorem lv_X7_47 : Cond.methodLink RX7 47 yX7_spellPower ∈ pq_G ∧ Cond.instanceMethod yX7_spellPower ∈ pq_G ∧ Cond.selects yX7_spellPower.cls yX7_spellPower yX7_spellPower ∈ pq_G := ⟨pq_t4 106 rfl rfl, pq_t4 108 rfl rfl, pq_t0 25 rfl rfl⟩
set_option maxRecDepth 8000 in
theorem lv_X8_37 : Cond.methodLink RX8 37 yX6_lacks ∈ pq_G ∧ Cond.instanceMethod yX6_lacks ∈ pq_G ∧ Cond.selects yX6_lacks.cls yX6_lacks yX6_lacks ∈ pq_G := ⟨pq_t4 158 rfl rfl, pq_t2 208 rfl rfl, pq_t2 209 rfl rfl⟩
set_option maxRecDepth 8000 in
theorem lv_X9_19 : Cond.static yX10_termsOf ∈ pq_G := pq_t2 225 rfl rfl
set_option maxRecDepth 8000 in
theorem lv_X9_26 : Cond.methodLink RX9 26 yX9_makeNought ∈ pq_G ∧ Cond.instanceMethod yX9_makeNought ∈ pq_G ∧ Cond.selects yX9_makeNought.cls yX9_makeNought yX9_makeNought ∈ pq_G := ⟨pq_t2 220 rfl rfl, pq_t2 221 rfl rfl, pq_t2 222 rfl rfl⟩
set_option maxRecDepth 8000 in
theorem lv_X9_30 : Cond.static yX10_placesOn ∈ pq_G := pq_t2 228 rfl rfl
set_option maxRecDepth 8000 in
theorem lv_X9_34 : Cond.static yX10_numberOn ∈ pq_G := pq_t2 238 rfl rfl
set_option maxRecDepth 8000 in
theorem lv_X9_38 : Cond.methodLink RX9 38 yX1_at ∈ pq_G ∧ Cond.instanceMethod yX1_at ∈ pq_G ∧ Cond.selects yX1_at.cls yX1_at yX1_at ∈ pq_G := ⟨pq_t3 1 rfl rfl, pq_t3 2 rfl rfl, pq_t3 3 rfl rfl⟩
set_option maxRecDepth 8000 in
theorem lv_X9_41 : Cond.methodLink RX9 41 yX9_raiseOnce ∈ pq_G ∧ Cond.instanceMethod yX9_raiseOnce ∈ pq_G ∧ Cond.selects yX9_raiseOnce.cls yX9_raiseOnce yX9_raiseOnce ∈ pq_G := ⟨pq_t3 42 rfl rfl, pq_t3 44 rfl rfl, pq_t0 12 rfl rfl⟩
set_option maxRecDepth 8000 in
theorem lv_X9_44 : Cond.static yX10_termOf ∈ pq_G := pq_t2 106 rfl rfl
set_option maxRecDepth 8000 in
theorem lv_X9_47 : Cond.methodLink RX9 47 yX9_among ∈ pq_G ∧ Cond.instanceMethod yX9_among ∈ pq_G ∧ Cond.selects yX9_among.cls yX9_among yX9_among ∈ pq_G := ⟨pq_t3 152 rfl rfl, pq_t3 141 rfl rfl, pq_t3 142 rfl rfl⟩
set_option maxRecDepth 8000 in
theorem lv_X9_51 : Cond.static yX10_fails ∈ pq_G := pq_t3 154 rfl rfl
set_option maxRecDepth 8000 in
theorem lv_X9_55 : Cond.methodLink RX9 55 yX9_firstFault ∈ pq_G ∧ Cond.instanceMethod yX9_firstFault ∈ pq_G ∧ Cond.selects yX9_firstFault.cls yX9_firstFault yX9_firstFault ∈ pq_G := ⟨pq_t3 164 rfl rfl, pq_t3 149 rfl rfl, pq_t3 150 rfl rfl⟩
set_option maxRecDepth 8000 in
theorem lv_X9_58 : Cond.static yX10_behindA ∈ pq_G := pq_t3 6 rfl rfl
set_option maxRecDepth 8000 in
theorem lv_X9_61 : Cond.methodLink RX9 61 yX9_worth ∈ pq_G ∧ Cond.instanceMethod yX9_worth ∈ pq_G ∧ Cond.selects yX9_worth.cls yX9_worth yX9_worth ∈ pq_G := ⟨pq_t3 182 rfl rfl, pq_t3 130 rfl rfl, pq_t3 131 rfl rfl⟩
set_option maxRecDepth 8000 in
theorem lv_X9_65 : Cond.methodLink RX9 65 yX9_failingPoint ∈ pq_G ∧ Cond.instanceMethod yX9_failingPoint ∈ pq_G ∧ Cond.selects yX9_failingPoint.cls yX9_failingPoint yX9_failingPoint ∈ pq_G := ⟨pq_t3 173 rfl rfl, pq_t3 174 rfl rfl, pq_t3 175 rfl rfl⟩
set_option maxRecDepth 8000 in
theorem lv_X9_68 : Cond.methodLink RX9 68 yX9_worthAt ∈ pq_G ∧ Cond.instanceMethod yX9_worthAt ∈ pq_G ∧ Cond.selects yX9_worthAt.cls yX9_worthAt yX9_worthAt ∈ pq_G := ⟨pq_t3 177 rfl rfl, pq_t3 178 rfl rfl, pq_t3 179 rfl rfl⟩
set_option maxRecDepth 8000 in
theorem lv_L_13 : Cond.methodLink RL 13 yX10_letter ∈ pq_G ∧ Cond.instanceMethod yX10_letter ∈ pq_G ∧ Cond.selects yX10_letter.cls yX10_letter yX10_letter ∈ pq_G := ⟨pq_t2 49 rfl rfl, pq_t2 50 rfl rfl, pq_t2 51 rfl rfl⟩
set_option maxRecDepth 8000 in
theorem lv_L_17 : Cond.methodLink RL 17 yX11_letter ∈ pq_G ∧ Cond.instanceMethod yX11_letter ∈ pq_G ∧ Cond.selects yX11_letter.cls yX11_letter yX11_letter ∈ pq_G := ⟨pq_t5 205 rfl rfl, pq_t5 206 rfl rfl, pq_t5 207 rfl rfl⟩
set_option maxRecDepth 8000 in
theorem lv_L_18 : Cond.methodLink RL 18 yX10_form ∈ pq_G ∧ Cond.instanceMethod yX10_form ∈ pq_G ∧ Cond.selects yX10_form.cls yX10_form yX10_form ∈ pq_G := ⟨pq_t2 61 rfl rfl, pq_t2 62 rfl rfl, pq_t2 63 rfl rfl⟩
set_option maxRecDepth 8000 in
theorem lv_L_22 : Cond.methodLink RL 22 yX11_form ∈ pq_G ∧ Cond.instanceMethod yX11_form ∈ pq_G ∧ Cond.selects yX11_form.cls yX11_form yX11_form ∈ pq_G := ⟨pq_t5 209 rfl rfl, pq_t5 210 rfl rfl, pq_t5 211 rfl rfl⟩
set_option maxRecDepth 8000 in
theorem lv_L_23 : Cond.methodLink RL 23 yX10_acts ∈ pq_G ∧ Cond.instanceMethod yX10_acts ∈ pq_G ∧ Cond.selects yX10_acts.cls yX10_acts yX10_acts ∈ pq_G := ⟨pq_t2 112 rfl rfl, pq_t2 113 rfl rfl, pq_t2 114 rfl rfl⟩
set_option maxRecDepth 8000 in
theorem lv_L_26 : Cond.methodLink RL 26 yX11_acts ∈ pq_G ∧ Cond.instanceMethod yX11_acts ∈ pq_G ∧ Cond.selects yX11_acts.cls yX11_acts yX11_acts ∈ pq_G := ⟨pq_t5 233 rfl rfl, pq_t5 234 rfl rfl, pq_t5 235 rfl rfl⟩
set_option maxRecDepth 8000 in
theorem lv_L_27 : Cond.methodLink RL 27 yX10_drop ∈ pq_G ∧ Cond.instanceMethod yX10_drop ∈ pq_G ∧ Cond.selects yX10_drop.cls yX10_drop yX10_drop ∈ pq_G := ⟨pq_t3 59 rfl rfl, pq_t3 60 rfl rfl, pq_t3 61 rfl rfl⟩
set_option maxRecDepth 8000 in
theorem lv_L_30 : Cond.methodLink RL 30 yX11_drop ∈ pq_G ∧ Cond.instanceMethod yX11_drop ∈ pq_G ∧ Cond.selects yX11_drop.cls yX11_drop yX11_drop ∈ pq_G := ⟨pq_t6 21 rfl rfl, pq_t6 22 rfl rfl, pq_t6 23 rfl rfl⟩
set_option maxRecDepth 8000 in
theorem lv_L_31 : Cond.methodLink RL 31 yX10_change ∈ pq_G ∧ Cond.instanceMethod yX10_change ∈ pq_G ∧ Cond.selects yX10_change.cls yX10_change yX10_change ∈ pq_G := ⟨pq_t3 63 rfl rfl, pq_t3 64 rfl rfl, pq_t3 65 rfl rfl⟩
set_option maxRecDepth 8000 in
theorem lv_L_35 : Cond.methodLink RL 35 yX11_change ∈ pq_G ∧ Cond.instanceMethod yX11_change ∈ pq_G ∧ Cond.selects yX11_change.cls yX11_change yX11_change ∈ pq_G := ⟨pq_t6 25 rfl rfl, pq_t6 26 rfl rfl, pq_t6 27 rfl rfl⟩
set_option maxRecDepth 8000 in
theorem lv_L_36 : Cond.methodLink RL 36 yX10_turn ∈ pq_G ∧ Cond.instanceMethod yX10_turn ∈ pq_G ∧ Cond.selects yX10_turn.cls yX10_turn yX10_turn ∈ pq_G := ⟨pq_t3 87 rfl rfl, pq_t3 88 rfl rfl, pq_t3 89 rfl rfl⟩
set_option maxRecDepth 8000 in
theorem lv_L_39 : Cond.methodLink RL 39 yX11_turn ∈ pq_G ∧ Cond.instanceMethod yX11_turn ∈ pq_G ∧ Cond.selects yX11_turn.cls yX11_turn yX11_turn ∈ pq_G := ⟨pq_t6 40 rfl rfl, pq_t6 41 rfl rfl, pq_t6 42 rfl rfl⟩
set_option maxRecDepth 8000 in
theorem lv_L_40 : Cond.methodLink RL 40 yX10_of ∈ pq_G ∧ Cond.instanceMethod yX10_of ∈ pq_G ∧ Cond.selects yX10_of.cls yX10_of yX10_of ∈ pq_G := ⟨pq_t3 91 rfl rfl, pq_t3 92 rfl rfl, pq_t3 93 rfl rfl⟩
set_option maxRecDepth 8000 in
theorem lv_L_44 : Cond.methodLink RL 44 yX11_of ∈ pq_G ∧ Cond.instanceMethod yX11_of ∈ pq_G ∧ Cond.selects yX11_of.cls yX11_of yX11_of ∈ pq_G := ⟨pq_t6 44 rfl rfl, pq_t6 45 rfl rfl, pq_t6 46 rfl rfl⟩
set_option maxRecDepth 8000 in
theorem lv_L_45 : Cond.methodLink RL 45 yX10_taken ∈ pq_G ∧ Cond.instanceMethod yX10_taken ∈ pq_G ∧ Cond.selects yX10_taken.cls yX10_taken yX10_taken ∈ pq_G := ⟨pq_t3 101 rfl rfl, pq_t3 102 rfl rfl, pq_t3 103 rfl rfl⟩
set_option maxRecDepth 8000 in
theorem lv_L_48 : Cond.methodLink RL 48 yX11_taken ∈ pq_G ∧ Cond.instanceMethod yX11_taken ∈ pq_G ∧ Cond.selects yX11_taken.cls yX11_taken yX11_taken ∈ pq_G := ⟨pq_t6 52 rfl rfl, pq_t6 53 rfl rfl, pq_t6 54 rfl rfl⟩
set_option maxRecDepth 8000 in
theorem lv_L_49 : Cond.methodLink RL 49 yX10_coefficient ∈ pq_G ∧ Cond.instanceMethod yX10_coefficient ∈ pq_G ∧ Cond.selects yX10_coefficient.cls yX10_coefficient yX10_coefficient ∈ pq_G := ⟨pq_t3 110 rfl rfl, pq_t3 111 rfl rfl, pq_t3 112 rfl rfl⟩
set_option maxRecDepth 8000 in
theorem lv_L_52 : Cond.methodLink RL 52 yX11_coefficient ∈ pq_G ∧ Cond.instanceMethod yX11_coefficient ∈ pq_G ∧ Cond.selects yX11_coefficient.cls yX11_coefficient yX11_coefficient ∈ pq_G := ⟨pq_t6 56 rfl rfl, pq_t6 57 rfl rfl, pq_t6 58 rfl rfl⟩
set_option maxRecDepth 8000 in
theorem lv_L_53 : Cond.methodLink RL 53 yX10_value ∈ pq_G ∧ Cond.instanceMethod yX10_value ∈ pq_G ∧ Cond.selects yX10_value.cls yX10_value yX10_value ∈ pq_G := ⟨pq_t3 115 rfl rfl, pq_t3 116 rfl rfl, pq_t3 117 rfl rfl⟩
set_option maxRecDepth 8000 in
theorem lv_L_57 : Cond.methodLink RL 57 yX11_value ∈ pq_G ∧ Cond.instanceMethod yX11_value ∈ pq_G ∧ Cond.selects yX11_value.cls yX11_value yX11_value ∈ pq_G := ⟨pq_t6 60 rfl rfl, pq_t6 61 rfl rfl, pq_t6 62 rfl rfl⟩
set_option maxRecDepth 8000 in
theorem lv_L_58 : Cond.methodLink RL 58 yX10_lifted ∈ pq_G ∧ Cond.instanceMethod yX10_lifted ∈ pq_G ∧ Cond.selects yX10_lifted.cls yX10_lifted yX10_lifted ∈ pq_G := ⟨pq_t3 133 rfl rfl, pq_t3 134 rfl rfl, pq_t3 135 rfl rfl⟩
set_option maxRecDepth 8000 in
theorem lv_L_61 : Cond.methodLink RL 61 yX11_lifted ∈ pq_G ∧ Cond.instanceMethod yX11_lifted ∈ pq_G ∧ Cond.selects yX11_lifted.cls yX11_lifted yX11_lifted ∈ pq_G := ⟨pq_t6 76 rfl rfl, pq_t6 77 rfl rfl, pq_t6 78 rfl rfl⟩
set_option maxRecDepth 8000 in
theorem lv_L_62 : Cond.methodLink RL 62 yX10_fault ∈ pq_G ∧ Cond.instanceMethod yX10_fault ∈ pq_G ∧ Cond.selects yX10_fault.cls yX10_fault yX10_fault ∈ pq_G := ⟨pq_t3 144 rfl rfl, pq_t3 145 rfl rfl, pq_t3 146 rfl rfl⟩
set_option maxRecDepth 8000 in
theorem lv_L_66 : Cond.methodLink RL 66 yX11_fault ∈ pq_G ∧ Cond.instanceMethod yX11_fault ∈ pq_G ∧ Cond.selects yX11_fault.cls yX11_fault yX11_fault ∈ pq_G := ⟨pq_t6 84 rfl rfl, pq_t6 85 rfl rfl, pq_t6 86 rfl rfl⟩
set_option maxRecDepth 8000 in
theorem lv_L_67 : Cond.methodLink RL 67 yX10_least ∈ pq_G ∧ Cond.instanceMethod yX10_least ∈ pq_G ∧ Cond.selects yX10_least.cls yX10_least yX10_least ∈ pq_G := ⟨pq_t3 156 rfl rfl, pq_t3 157 rfl rfl, pq_t3 158 rfl rfl⟩
set_option maxRecDepth 8000 in
theorem lv_L_70 : Cond.methodLink RL 70 yX11_least ∈ pq_G ∧ Cond.instanceMethod yX11_least ∈ pq_G ∧ Cond.selects yX11_least.cls yX11_least yX11_least ∈ pq_G := ⟨pq_t6 95 rfl rfl, pq_t6 96 rfl rfl, pq_t6 97 rfl rfl⟩
set_option maxRecDepth 8000 in
theorem lv_L_71 : Cond.methodLink RL 71 yX10_failing ∈ pq_G ∧ Cond.instanceMethod yX10_failing ∈ pq_G ∧ Cond.selects yX10_failing.cls yX10_failing yX10_failing ∈ pq_G := ⟨pq_t3 165 rfl rfl, pq_t3 166 rfl rfl, pq_t3 167 rfl rfl⟩
set_option maxRecDepth 8000 in
theorem lv_L_74 : Cond.methodLink RL 74 yX11_failing ∈ pq_G ∧ Cond.instanceMethod yX11_failing ∈ pq_G ∧ Cond.selects yX11_failing.cls yX11_failing yX11_failing ∈ pq_G := ⟨pq_t6 103 rfl rfl, pq_t6 104 rfl rfl, pq_t6 105 rfl rfl⟩
set_option maxRecDepth 8000 in
theorem lv_L_75 : Cond.methodLink RL 75 yX10_lowest ∈ pq_G ∧ Cond.instanceMethod yX10_lowest ∈ pq_G ∧ Cond.selects yX10_lowest.cls yX10_lowest yX10_lowest ∈ pq_G := ⟨pq_t3 184 rfl rfl, pq_t3 185 rfl rfl, pq_t3 186 rfl rfl⟩
set_option maxRecDepth 8000 in
theorem lv_L_78 : Cond.methodLink RL 78 yX11_lowest ∈ pq_G ∧ Cond.instanceMethod yX11_lowest ∈ pq_G ∧ Cond.selects yX11_lowest.cls yX11_lowest yX11_lowest ∈ pq_G := ⟨pq_t6 127 rfl rfl, pq_t6 128 rfl rfl, pq_t6 129 rfl rfl⟩
set_option maxRecDepth 8000 in
theorem lv_L_79 : Cond.methodLink RL 79 yX10_share ∈ pq_G ∧ Cond.instanceMethod yX10_share ∈ pq_G ∧ Cond.selects yX10_share.cls yX10_share yX10_share ∈ pq_G := ⟨pq_t3 197 rfl rfl, pq_t3 198 rfl rfl, pq_t3 199 rfl rfl⟩
set_option maxRecDepth 8000 in
theorem lv_L_82 : Cond.methodLink RL 82 yX11_share ∈ pq_G ∧ Cond.instanceMethod yX11_share ∈ pq_G ∧ Cond.selects yX11_share.cls yX11_share yX11_share ∈ pq_G := ⟨pq_t6 135 rfl rfl, pq_t6 136 rfl rfl, pq_t6 137 rfl rfl⟩
set_option maxRecDepth 8000 in
theorem lv_L_83 : Cond.methodLink RL 83 yX10_proof ∈ pq_G ∧ Cond.instanceMethod yX10_proof ∈ pq_G ∧ Cond.selects yX10_proof.cls yX10_proof yX10_proof ∈ pq_G := ⟨pq_t3 214 rfl rfl, pq_t3 215 rfl rfl, pq_t3 216 rfl rfl⟩
set_option maxRecDepth 8000 in
theorem lv_L_86 : Cond.methodLink RL 86 yX11_proof ∈ pq_G ∧ Cond.instanceMethod yX11_proof ∈ pq_G ∧ Cond.selects yX11_proof.cls yX11_proof yX11_proof ∈ pq_G := ⟨pq_t6 145 rfl rfl, pq_t6 146 rfl rfl, pq_t6 147 rfl rfl⟩
set_option maxRecDepth 8000 in
theorem lv_L_87 : Cond.methodLink RL 87 yX10_walls ∈ pq_G ∧ Cond.instanceMethod yX10_walls ∈ pq_G ∧ Cond.selects yX10_walls.cls yX10_walls yX10_walls ∈ pq_G := ⟨pq_t3 218 rfl rfl, pq_t3 219 rfl rfl, pq_t3 220 rfl rfl⟩
set_option maxRecDepth 8000 in
theorem lv_L_91 : Cond.methodLink RL 91 yX11_walls ∈ pq_G ∧ Cond.instanceMethod yX11_walls ∈ pq_G ∧ Cond.selects yX11_walls.cls yX11_walls yX11_walls ∈ pq_G := ⟨pq_t6 149 rfl rfl, pq_t6 150 rfl rfl, pq_t6 151 rfl rfl⟩
set_option maxRecDepth 8000 in
theorem lv_L_92 : Cond.methodLink RL 92 yX10_wallsLeast ∈ pq_G ∧ Cond.instanceMethod yX10_wallsLeast ∈ pq_G ∧ Cond.selects yX10_wallsLeast.cls yX10_wallsLeast yX10_wallsLeast ∈ pq_G := ⟨pq_t3 239 rfl rfl, pq_t4 0 rfl rfl, pq_t4 1 rfl rfl⟩
set_option maxRecDepth 8000 in
theorem lv_L_95 : Cond.methodLink RL 95 yX11_wallsLeast ∈ pq_G ∧ Cond.instanceMethod yX11_wallsLeast ∈ pq_G ∧ Cond.selects yX11_wallsLeast.cls yX11_wallsLeast yX11_wallsLeast ∈ pq_G := ⟨pq_t6 168 rfl rfl, pq_t6 169 rfl rfl, pq_t6 170 rfl rfl⟩
set_option maxRecDepth 8000 in
theorem lv_L_96 : Cond.methodLink RL 96 yX10_made ∈ pq_G ∧ Cond.instanceMethod yX10_made ∈ pq_G ∧ Cond.selects yX10_made.cls yX10_made yX10_made ∈ pq_G := ⟨pq_t4 12 rfl rfl, pq_t4 13 rfl rfl, pq_t4 14 rfl rfl⟩
set_option maxRecDepth 8000 in
theorem lv_L_99 : Cond.methodLink RL 99 yX11_made ∈ pq_G ∧ Cond.instanceMethod yX11_made ∈ pq_G ∧ Cond.selects yX11_made.cls yX11_made yX11_made ∈ pq_G := ⟨pq_t6 172 rfl rfl, pq_t6 173 rfl rfl, pq_t6 174 rfl rfl⟩
set_option maxRecDepth 8000 in
theorem lv_L_100 : Cond.methodLink RL 100 yX10_sum ∈ pq_G ∧ Cond.instanceMethod yX10_sum ∈ pq_G ∧ Cond.selects yX10_sum.cls yX10_sum yX10_sum ∈ pq_G := ⟨pq_t4 59 rfl rfl, pq_t4 60 rfl rfl, pq_t4 61 rfl rfl⟩
set_option maxRecDepth 8000 in
theorem lv_L_103 : Cond.methodLink RL 103 yX11_sum ∈ pq_G ∧ Cond.instanceMethod yX11_sum ∈ pq_G ∧ Cond.selects yX11_sum.cls yX11_sum yX11_sum ∈ pq_G := ⟨pq_t5 99 rfl rfl, pq_t5 100 rfl rfl, pq_t5 101 rfl rfl⟩
set_option maxRecDepth 8000 in
theorem lv_L_104 : Cond.methodLink RL 104 yX10_product ∈ pq_G ∧ Cond.instanceMethod yX10_product ∈ pq_G ∧ Cond.selects yX10_product.cls yX10_product yX10_product ∈ pq_G := ⟨pq_t4 64 rfl rfl, pq_t4 65 rfl rfl, pq_t4 66 rfl rfl⟩
set_option maxRecDepth 8000 in
theorem lv_L_107 : Cond.methodLink RL 107 yX11_product ∈ pq_G ∧ Cond.instanceMethod yX11_product ∈ pq_G ∧ Cond.selects yX11_product.cls yX11_product yX11_product ∈ pq_G := ⟨pq_t5 156 rfl rfl, pq_t5 157 rfl rfl, pq_t5 158 rfl rfl⟩
set_option maxRecDepth 8000 in
theorem lv_L_108 : Cond.methodLink RL 108 yX10_lift ∈ pq_G ∧ Cond.instanceMethod yX10_lift ∈ pq_G ∧ Cond.selects yX10_lift.cls yX10_lift yX10_lift ∈ pq_G := ⟨pq_t4 69 rfl rfl, pq_t4 70 rfl rfl, pq_t4 71 rfl rfl⟩
set_option maxRecDepth 8000 in
theorem lv_L_111 : Cond.methodLink RL 111 yX11_lift ∈ pq_G ∧ Cond.instanceMethod yX11_lift ∈ pq_G ∧ Cond.selects yX11_lift.cls yX11_lift yX11_lift ∈ pq_G := ⟨pq_t5 164 rfl rfl, pq_t5 165 rfl rfl, pq_t5 166 rfl rfl⟩
set_option maxRecDepth 8000 in
theorem lv_L_112 : Cond.methodLink RL 112 yX10_negative ∈ pq_G ∧ Cond.instanceMethod yX10_negative ∈ pq_G ∧ Cond.selects yX10_negative.cls yX10_negative yX10_negative ∈ pq_G := ⟨pq_t4 74 rfl rfl, pq_t4 75 rfl rfl, pq_t4 76 rfl rfl⟩
set_option maxRecDepth 8000 in
theorem lv_L_115 : Cond.methodLink RL 115 yX11_negative ∈ pq_G ∧ Cond.instanceMethod yX11_negative ∈ pq_G ∧ Cond.selects yX11_negative.cls yX11_negative yX11_negative ∈ pq_G := ⟨pq_t5 186 rfl rfl, pq_t5 187 rfl rfl, pq_t5 188 rfl rfl⟩
set_option maxRecDepth 8000 in
theorem lv_L_116 : Cond.methodLink RL 116 yX10_on ∈ pq_G ∧ Cond.instanceMethod yX10_on ∈ pq_G ∧ Cond.selects yX10_on.cls yX10_on yX10_on ∈ pq_G := ⟨pq_t4 79 rfl rfl, pq_t4 80 rfl rfl, pq_t4 81 rfl rfl⟩
set_option maxRecDepth 8000 in
theorem lv_L_119 : Cond.methodLink RL 119 yX11_on ∈ pq_G ∧ Cond.instanceMethod yX11_on ∈ pq_G ∧ Cond.selects yX11_on.cls yX11_on yX11_on ∈ pq_G := ⟨pq_t5 194 rfl rfl, pq_t5 195 rfl rfl, pq_t5 196 rfl rfl⟩
set_option maxRecDepth 8000 in
theorem lv_L_120 : Cond.methodLink RL 120 yX10_spelled ∈ pq_G ∧ Cond.instanceMethod yX10_spelled ∈ pq_G ∧ Cond.selects yX10_spelled.cls yX10_spelled yX10_spelled ∈ pq_G := ⟨pq_t4 84 rfl rfl, pq_t4 85 rfl rfl, pq_t4 86 rfl rfl⟩
set_option maxRecDepth 8000 in
theorem lv_L_123 : Cond.methodLink RL 123 yX11_spelled ∈ pq_G ∧ Cond.instanceMethod yX11_spelled ∈ pq_G ∧ Cond.selects yX11_spelled.cls yX11_spelled yX11_spelled ∈ pq_G := ⟨pq_t6 220 rfl rfl, pq_t6 221 rfl rfl, pq_t6 222 rfl rfl⟩
set_option maxRecDepth 8000 in
theorem lv_L_124 : Cond.methodLink RL 124 yX10_lots ∈ pq_G ∧ Cond.instanceMethod yX10_lots ∈ pq_G ∧ Cond.selects yX10_lots.cls yX10_lots yX10_lots ∈ pq_G := ⟨pq_t4 110 rfl rfl, pq_t4 111 rfl rfl, pq_t4 112 rfl rfl⟩
set_option maxRecDepth 8000 in
theorem lv_L_127 : Cond.methodLink RL 127 yX11_lots ∈ pq_G ∧ Cond.instanceMethod yX11_lots ∈ pq_G ∧ Cond.selects yX11_lots.cls yX11_lots yX11_lots ∈ pq_G := ⟨pq_t6 236 rfl rfl, pq_t6 237 rfl rfl, pq_t6 238 rfl rfl⟩
set_option maxRecDepth 8000 in
theorem lv_L_128 : Cond.methodLink RL 128 yX10_list ∈ pq_G ∧ Cond.instanceMethod yX10_list ∈ pq_G ∧ Cond.selects yX10_list.cls yX10_list yX10_list ∈ pq_G := ⟨pq_t4 126 rfl rfl, pq_t4 127 rfl rfl, pq_t4 128 rfl rfl⟩
set_option maxRecDepth 8000 in
theorem lv_L_131 : Cond.methodLink RL 131 yX11_list ∈ pq_G ∧ Cond.instanceMethod yX11_list ∈ pq_G ∧ Cond.selects yX11_list.cls yX11_list yX11_list ∈ pq_G := ⟨pq_t7 7 rfl rfl, pq_t7 8 rfl rfl, pq_t7 9 rfl rfl⟩
set_option maxRecDepth 8000 in
theorem lv_L_132 : Cond.methodLink RL 132 yX10_put ∈ pq_G ∧ Cond.instanceMethod yX10_put ∈ pq_G ∧ Cond.selects yX10_put.cls yX10_put yX10_put ∈ pq_G := ⟨pq_t4 134 rfl rfl, pq_t4 135 rfl rfl, pq_t4 136 rfl rfl⟩
set_option maxRecDepth 8000 in
theorem lv_L_135 : Cond.methodLink RL 135 yX11_put ∈ pq_G ∧ Cond.instanceMethod yX11_put ∈ pq_G ∧ Cond.selects yX11_put.cls yX11_put yX11_put ∈ pq_G := ⟨pq_t7 11 rfl rfl, pq_t7 12 rfl rfl, pq_t7 13 rfl rfl⟩
set_option maxRecDepth 8000 in
theorem lv_L_136 : Cond.methodLink RL 136 yX10_look ∈ pq_G ∧ Cond.instanceMethod yX10_look ∈ pq_G ∧ Cond.selects yX10_look.cls yX10_look yX10_look ∈ pq_G := ⟨pq_t4 138 rfl rfl, pq_t4 139 rfl rfl, pq_t4 140 rfl rfl⟩
set_option maxRecDepth 8000 in
theorem lv_L_140 : Cond.methodLink RL 140 yX11_look ∈ pq_G ∧ Cond.instanceMethod yX11_look ∈ pq_G ∧ Cond.selects yX11_look.cls yX11_look yX11_look ∈ pq_G := ⟨pq_t7 19 rfl rfl, pq_t7 20 rfl rfl, pq_t7 21 rfl rfl⟩
set_option maxRecDepth 8000 in
theorem lv_L_141 : Cond.methodLink RL 141 yX10_lays ∈ pq_G ∧ Cond.instanceMethod yX10_lays ∈ pq_G ∧ Cond.selects yX10_lays.cls yX10_lays yX10_lays ∈ pq_G := ⟨pq_t4 142 rfl rfl, pq_t4 143 rfl rfl, pq_t4 144 rfl rfl⟩
set_option maxRecDepth 8000 in
theorem lv_L_144 : Cond.methodLink RL 144 yX11_lays ∈ pq_G ∧ Cond.instanceMethod yX11_lays ∈ pq_G ∧ Cond.selects yX11_lays.cls yX11_lays yX11_lays ∈ pq_G := ⟨pq_t7 23 rfl rfl, pq_t7 24 rfl rfl, pq_t7 25 rfl rfl⟩
set_option maxRecDepth 8000 in
theorem lv_L_145 : Cond.methodLink RL 145 yX10_judge ∈ pq_G ∧ Cond.instanceMethod yX10_judge ∈ pq_G ∧ Cond.selects yX10_judge.cls yX10_judge yX10_judge ∈ pq_G := ⟨pq_t4 146 rfl rfl, pq_t4 147 rfl rfl, pq_t4 148 rfl rfl⟩
set_option maxRecDepth 8000 in
theorem lv_L_148 : Cond.methodLink RL 148 yX11_judge ∈ pq_G ∧ Cond.instanceMethod yX11_judge ∈ pq_G ∧ Cond.selects yX11_judge.cls yX11_judge yX11_judge ∈ pq_G := ⟨pq_t7 27 rfl rfl, pq_t7 28 rfl rfl, pq_t7 29 rfl rfl⟩
set_option maxRecDepth 8000 in
theorem lv_L_149 : Cond.methodLink RL 149 yX10_undo ∈ pq_G ∧ Cond.instanceMethod yX10_undo ∈ pq_G ∧ Cond.selects yX10_undo.cls yX10_undo yX10_undo ∈ pq_G := ⟨pq_t4 150 rfl rfl, pq_t4 151 rfl rfl, pq_t4 152 rfl rfl⟩
set_option maxRecDepth 8000 in
theorem lv_L_152 : Cond.methodLink RL 152 yX11_undo ∈ pq_G ∧ Cond.instanceMethod yX11_undo ∈ pq_G ∧ Cond.selects yX11_undo.cls yX11_undo yX11_undo ∈ pq_G := ⟨pq_t5 91 rfl rfl, pq_t5 92 rfl rfl, pq_t5 93 rfl rfl⟩
set_option maxRecDepth 8000 in
theorem lv_L_153 : Cond.methodLink RL 153 yX10_image ∈ pq_G ∧ Cond.instanceMethod yX10_image ∈ pq_G ∧ Cond.selects yX10_image.cls yX10_image yX10_image ∈ pq_G := ⟨pq_t4 159 rfl rfl, pq_t4 160 rfl rfl, pq_t4 161 rfl rfl⟩
set_option maxRecDepth 8000 in
theorem lv_L_156 : Cond.methodLink RL 156 yX11_image ∈ pq_G ∧ Cond.instanceMethod yX11_image ∈ pq_G ∧ Cond.selects yX11_image.cls yX11_image yX11_image ∈ pq_G := ⟨pq_t7 31 rfl rfl, pq_t7 32 rfl rfl, pq_t7 33 rfl rfl⟩
set_option maxRecDepth 8000 in
theorem lv_L_157 : Cond.methodLink RL 157 yX10_back ∈ pq_G ∧ Cond.instanceMethod yX10_back ∈ pq_G ∧ Cond.selects yX10_back.cls yX10_back yX10_back ∈ pq_G := ⟨pq_t4 171 rfl rfl, pq_t4 172 rfl rfl, pq_t4 173 rfl rfl⟩
set_option maxRecDepth 8000 in
theorem lv_L_160 : Cond.methodLink RL 160 yX11_back ∈ pq_G ∧ Cond.instanceMethod yX11_back ∈ pq_G ∧ Cond.selects yX11_back.cls yX11_back yX11_back ∈ pq_G := ⟨pq_t7 43 rfl rfl, pq_t7 44 rfl rfl, pq_t7 45 rfl rfl⟩
set_option maxRecDepth 8000 in
theorem lv_L_161 : Cond.methodLink RL 161 yX10_count ∈ pq_G ∧ Cond.instanceMethod yX10_count ∈ pq_G ∧ Cond.selects yX10_count.cls yX10_count yX10_count ∈ pq_G := ⟨pq_t4 179 rfl rfl, pq_t4 180 rfl rfl, pq_t4 181 rfl rfl⟩
set_option maxRecDepth 8000 in
theorem lv_L_164 : Cond.methodLink RL 164 yX11_count ∈ pq_G ∧ Cond.instanceMethod yX11_count ∈ pq_G ∧ Cond.selects yX11_count.cls yX11_count yX11_count ∈ pq_G := ⟨pq_t7 47 rfl rfl, pq_t7 48 rfl rfl, pq_t7 49 rfl rfl⟩
set_option maxRecDepth 8000 in
theorem lv_X11_8 : Cond.methodLink RX11 8 yX11_no ∈ pq_G ∧ Cond.instanceMethod yX11_no ∈ pq_G ∧ Cond.selects yX11_no.cls yX11_no yX11_no ∈ pq_G := ⟨pq_t5 95 rfl rfl, pq_t5 97 rfl rfl, pq_t0 26 rfl rfl⟩
set_option maxRecDepth 8000 in
theorem lv_X11_14 : Cond.methodLink RX11 14 yX11_restOf ∈ pq_G ∧ Cond.static yX11_restOf ∈ pq_G := ⟨pq_t5 128 rfl rfl, pq_t5 129 rfl rfl⟩
set_option maxRecDepth 8000 in
theorem lv_X11_17 : Cond.methodLink RX11 17 yX11_powerIn ∈ pq_G ∧ Cond.static yX11_powerIn ∈ pq_G := ⟨pq_t5 125 rfl rfl, pq_t5 126 rfl rfl⟩
set_option maxRecDepth 8000 in
theorem lv_X11_98 : Cond.methodLink RX11 98 yX11_isIn ∈ pq_G ∧ Cond.static yX11_isIn ∈ pq_G := ⟨pq_t5 107 rfl rfl, pq_t5 108 rfl rfl⟩
set_option maxRecDepth 8000 in
theorem lv_X11_102 : Cond.methodLink RX11 102 yX11_termsOf ∈ pq_G ∧ Cond.static yX11_termsOf ∈ pq_G := ⟨pq_t5 118 rfl rfl, pq_t5 119 rfl rfl⟩
set_option maxRecDepth 8000 in
theorem lv_X11_105 : Cond.methodLink RX11 105 yX11_termOf ∈ pq_G ∧ Cond.static yX11_termOf ∈ pq_G := ⟨pq_t5 135 rfl rfl, pq_t5 136 rfl rfl⟩
set_option maxRecDepth 8000 in
theorem lv_X11_108 : Cond.methodLink RX11 108 yX11_toldAt ∈ pq_G ∧ Cond.instanceMethod yX11_toldAt ∈ pq_G ∧ Cond.selects yX11_toldAt.cls yX11_toldAt yX11_toldAt ∈ pq_G := ⟨pq_t5 131 rfl rfl, pq_t5 133 rfl rfl, pq_t0 31 rfl rfl⟩
set_option maxRecDepth 8000 in
theorem lv_X11_111 : Cond.methodLink RX11 111 yX11_isTerm ∈ pq_G ∧ Cond.instanceMethod yX11_isTerm ∈ pq_G ∧ Cond.selects yX11_isTerm.cls yX11_isTerm yX11_isTerm ∈ pq_G := ⟨pq_t5 114 rfl rfl, pq_t5 116 rfl rfl, pq_t0 29 rfl rfl⟩
set_option maxRecDepth 8000 in
theorem lv_X11_115 : Cond.methodLink RX11 115 yX11_coefficientOf ∈ pq_G ∧ Cond.instanceMethod yX11_coefficientOf ∈ pq_G ∧ Cond.selects yX11_coefficientOf.cls yX11_coefficientOf yX11_coefficientOf ∈ pq_G := ⟨pq_t5 121 rfl rfl, pq_t5 123 rfl rfl, pq_t0 30 rfl rfl⟩
set_option maxRecDepth 8000 in
theorem lv_X11_126 : Cond.methodLink RX11 126 yX11_canCome ∈ pq_G ∧ Cond.instanceMethod yX11_canCome ∈ pq_G ∧ Cond.selects yX11_canCome.cls yX11_canCome yX11_canCome ∈ pq_G := ⟨pq_t5 142 rfl rfl, pq_t5 144 rfl rfl, pq_t0 33 rfl rfl⟩
set_option maxRecDepth 8000 in
theorem lv_X11_130 : Cond.methodLink RX11 130 yX11_comes ∈ pq_G ∧ Cond.instanceMethod yX11_comes ∈ pq_G ∧ Cond.selects yX11_comes.cls yX11_comes yX11_comes ∈ pq_G := ⟨pq_t5 148 rfl rfl, pq_t5 150 rfl rfl, pq_t0 34 rfl rfl⟩
set_option maxRecDepth 8000 in
theorem lv_X11_133 : Cond.methodLink RX11 133 yX11_comesIf ∈ pq_G ∧ Cond.instanceMethod yX11_comesIf ∈ pq_G ∧ Cond.selects yX11_comesIf.cls yX11_comesIf yX11_comesIf ∈ pq_G := ⟨pq_t5 138 rfl rfl, pq_t5 140 rfl rfl, pq_t0 32 rfl rfl⟩
set_option maxRecDepth 8000 in
theorem lv_X11_136 : Cond.methodLink RX11 136 yX11_takes ∈ pq_G ∧ Cond.instanceMethod yX11_takes ∈ pq_G ∧ Cond.selects yX11_takes.cls yX11_takes yX11_takes ∈ pq_G := ⟨pq_t5 175 rfl rfl, pq_t5 177 rfl rfl, pq_t0 38 rfl rfl⟩
set_option maxRecDepth 8000 in
theorem lv_X11_140 : Cond.methodLink RX11 140 yX11_isOn ∈ pq_G ∧ Cond.static yX11_isOn ∈ pq_G := ⟨pq_t5 179 rfl rfl, pq_t5 180 rfl rfl⟩
set_option maxRecDepth 8000 in
theorem lv_X11_143 : Cond.methodLink RX11 143 yX11_isForm ∈ pq_G ∧ Cond.instanceMethod yX11_isForm ∈ pq_G ∧ Cond.selects yX11_isForm.cls yX11_isForm yX11_isForm ∈ pq_G := ⟨pq_t5 103 rfl rfl, pq_t5 105 rfl rfl, pq_t0 27 rfl rfl⟩
set_option maxRecDepth 8000 in
theorem lv_X11_146 : Cond.methodLink RX11 146 yX11_sums ∈ pq_G ∧ Cond.instanceMethod yX11_sums ∈ pq_G ∧ Cond.selects yX11_sums.cls yX11_sums yX11_sums ∈ pq_G := ⟨pq_t5 110 rfl rfl, pq_t5 112 rfl rfl, pq_t0 28 rfl rfl⟩
set_option maxRecDepth 8000 in
theorem lv_X11_149 : Cond.methodLink RX11 149 yX11_told ∈ pq_G ∧ Cond.instanceMethod yX11_told ∈ pq_G ∧ Cond.selects yX11_told.cls yX11_told yX11_told ∈ pq_G := ⟨pq_t5 152 rfl rfl, pq_t5 154 rfl rfl, pq_t0 35 rfl rfl⟩
set_option maxRecDepth 8000 in
theorem lv_X11_151 : Cond.methodLink RX11 151 yX11_multiplies ∈ pq_G ∧ Cond.instanceMethod yX11_multiplies ∈ pq_G ∧ Cond.selects yX11_multiplies.cls yX11_multiplies yX11_multiplies ∈ pq_G := ⟨pq_t5 160 rfl rfl, pq_t5 162 rfl rfl, pq_t0 36 rfl rfl⟩
set_option maxRecDepth 8000 in
theorem lv_X11_154 : Cond.methodLink RX11 154 yX11_bound ∈ pq_G ∧ Cond.static yX11_bound ∈ pq_G := ⟨pq_t5 168 rfl rfl, pq_t5 169 rfl rfl⟩
set_option maxRecDepth 8000 in
theorem lv_X11_157 : Cond.methodLink RX11 157 yX11_lifts ∈ pq_G ∧ Cond.instanceMethod yX11_lifts ∈ pq_G ∧ Cond.selects yX11_lifts.cls yX11_lifts yX11_lifts ∈ pq_G := ⟨pq_t5 171 rfl rfl, pq_t5 173 rfl rfl, pq_t0 37 rfl rfl⟩
set_option maxRecDepth 8000 in
theorem lv_X11_160 : Cond.methodLink RX11 160 yX11_turnsBelow ∈ pq_G ∧ Cond.instanceMethod yX11_turnsBelow ∈ pq_G ∧ Cond.selects yX11_turnsBelow.cls yX11_turnsBelow yX11_turnsBelow ∈ pq_G := ⟨pq_t5 190 rfl rfl, pq_t5 192 rfl rfl, pq_t0 40 rfl rfl⟩
set_option maxRecDepth 8000 in
theorem lv_X11_163 : Cond.methodLink RX11 163 yX11_isSide ∈ pq_G ∧ Cond.static yX11_isSide ∈ pq_G := ⟨pq_t5 198 rfl rfl, pq_t5 199 rfl rfl⟩
set_option maxRecDepth 8000 in
theorem lv_X11_166 : Cond.methodLink RX11 166 yX11_staysOn ∈ pq_G ∧ Cond.instanceMethod yX11_staysOn ∈ pq_G ∧ Cond.selects yX11_staysOn.cls yX11_staysOn yX11_staysOn ∈ pq_G := ⟨pq_t5 201 rfl rfl, pq_t5 203 rfl rfl, pq_t0 41 rfl rfl⟩
set_option maxRecDepth 8000 in
theorem lv_X11_175 : Cond.methodLink RX11 175 yX11_next ∈ pq_G ∧ Cond.instanceMethod yX11_next ∈ pq_G ∧ Cond.selects yX11_next.cls yX11_next yX11_next ∈ pq_G := ⟨pq_t5 217 rfl rfl, pq_t5 219 rfl rfl, pq_t0 43 rfl rfl⟩
set_option maxRecDepth 8000 in
theorem lv_X11_179 : Cond.methodLink RX11 179 yX11_isDigit ∈ pq_G ∧ Cond.instanceMethod yX11_isDigit ∈ pq_G ∧ Cond.selects yX11_isDigit.cls yX11_isDigit yX11_isDigit ∈ pq_G := ⟨pq_t5 225 rfl rfl, pq_t5 227 rfl rfl, pq_t0 45 rfl rfl⟩
set_option maxRecDepth 8000 in
theorem lv_X11_183 : Cond.methodLink RX11 183 yX11_readsPower ∈ pq_G ∧ Cond.instanceMethod yX11_readsPower ∈ pq_G ∧ Cond.selects yX11_readsPower.cls yX11_readsPower yX11_readsPower ∈ pq_G := ⟨pq_t5 229 rfl rfl, pq_t5 231 rfl rfl, pq_t0 46 rfl rfl⟩
set_option maxRecDepth 8000 in
theorem lv_X11_186 : Cond.methodLink RX11 186 yX11_readsMember ∈ pq_G ∧ Cond.instanceMethod yX11_readsMember ∈ pq_G ∧ Cond.selects yX11_readsMember.cls yX11_readsMember yX11_readsMember ∈ pq_G := ⟨pq_t5 221 rfl rfl, pq_t5 223 rfl rfl, pq_t0 44 rfl rfl⟩
set_option maxRecDepth 8000 in
theorem lv_X11_190 : Cond.methodLink RX11 190 yX11_readsForm ∈ pq_G ∧ Cond.instanceMethod yX11_readsForm ∈ pq_G ∧ Cond.selects yX11_readsForm.cls yX11_readsForm yX11_readsForm ∈ pq_G := ⟨pq_t5 213 rfl rfl, pq_t5 215 rfl rfl, pq_t0 42 rfl rfl⟩
set_option maxRecDepth 8000 in
theorem lv_X11_193 : Cond.methodLink RX11 193 yX11_isWord ∈ pq_G ∧ Cond.instanceMethod yX11_isWord ∈ pq_G ∧ Cond.selects yX11_isWord.cls yX11_isWord yX11_isWord ∈ pq_G := ⟨pq_t6 9 rfl rfl, pq_t6 11 rfl rfl, pq_t0 50 rfl rfl⟩
set_option maxRecDepth 8000 in
theorem lv_X11_197 : Cond.methodLink RX11 197 yX11_readsWord ∈ pq_G ∧ Cond.instanceMethod yX11_readsWord ∈ pq_G ∧ Cond.selects yX11_readsWord.cls yX11_readsWord yX11_readsWord ∈ pq_G := ⟨pq_t6 5 rfl rfl, pq_t6 7 rfl rfl, pq_t0 49 rfl rfl⟩
set_option maxRecDepth 8000 in
theorem lv_X11_200 : Cond.methodLink RX11 200 yX11_readsNumber ∈ pq_G ∧ Cond.instanceMethod yX11_readsNumber ∈ pq_G ∧ Cond.selects yX11_readsNumber.cls yX11_readsNumber yX11_readsNumber ∈ pq_G := ⟨pq_t6 13 rfl rfl, pq_t6 15 rfl rfl, pq_t0 51 rfl rfl⟩
set_option maxRecDepth 8000 in
theorem lv_X11_206 : Cond.methodLink RX11 206 yX11_readsAct ∈ pq_G ∧ Cond.instanceMethod yX11_readsAct ∈ pq_G ∧ Cond.selects yX11_readsAct.cls yX11_readsAct yX11_readsAct ∈ pq_G := ⟨pq_t6 1 rfl rfl, pq_t6 3 rfl rfl, pq_t0 48 rfl rfl⟩
set_option maxRecDepth 8000 in
theorem lv_X11_209 : Cond.methodLink RX11 209 yX11_readsActs ∈ pq_G ∧ Cond.instanceMethod yX11_readsActs ∈ pq_G ∧ Cond.selects yX11_readsActs.cls yX11_readsActs yX11_readsActs ∈ pq_G := ⟨pq_t5 237 rfl rfl, pq_t5 239 rfl rfl, pq_t0 47 rfl rfl⟩
set_option maxRecDepth 8000 in
theorem lv_X11_212 : Cond.methodLink RX11 212 yX11_does ∈ pq_G ∧ Cond.instanceMethod yX11_does ∈ pq_G ∧ Cond.selects yX11_does.cls yX11_does yX11_does ∈ pq_G := ⟨pq_t6 17 rfl rfl, pq_t6 19 rfl rfl, pq_t0 52 rfl rfl⟩
set_option maxRecDepth 8000 in
theorem lv_X11_217 : Cond.methodLink RX11 217 yX11_far ∈ pq_G ∧ Cond.instanceMethod yX11_far ∈ pq_G ∧ Cond.selects yX11_far.cls yX11_far yX11_far ∈ pq_G := ⟨pq_t6 31 rfl rfl, pq_t6 33 rfl rfl, pq_t0 53 rfl rfl⟩
set_option maxRecDepth 8000 in
theorem lv_X11_220 : Cond.methodLink RX11 220 yX11_notes ∈ pq_G ∧ Cond.instanceMethod yX11_notes ∈ pq_G ∧ Cond.selects yX11_notes.cls yX11_notes yX11_notes ∈ pq_G := ⟨pq_t6 36 rfl rfl, pq_t6 38 rfl rfl, pq_t0 54 rfl rfl⟩
set_option maxRecDepth 8000 in
theorem lv_X11_224 : Cond.methodLink RX11 224 yX11_many ∈ pq_G ∧ Cond.instanceMethod yX11_many ∈ pq_G ∧ Cond.selects yX11_many.cls yX11_many yX11_many ∈ pq_G := ⟨pq_t6 48 rfl rfl, pq_t6 50 rfl rfl, pq_t0 55 rfl rfl⟩
set_option maxRecDepth 8000 in
theorem lv_X11_227 : Cond.methodLink RX11 227 yX11_power ∈ pq_G ∧ Cond.static yX11_power ∈ pq_G := ⟨pq_t6 73 rfl rfl, pq_t6 74 rfl rfl⟩
set_option maxRecDepth 8000 in
theorem lv_X11_231 : Cond.methodLink RX11 231 yX11_lower ∈ pq_G ∧ Cond.instanceMethod yX11_lower ∈ pq_G ∧ Cond.selects yX11_lower.cls yX11_lower yX11_lower ∈ pq_G := ⟨pq_t6 64 rfl rfl, pq_t6 66 rfl rfl, pq_t0 56 rfl rfl⟩
set_option maxRecDepth 8000 in
theorem lv_X11_235 : Cond.methodLink RX11 235 yX11_valueAt ∈ pq_G ∧ Cond.instanceMethod yX11_valueAt ∈ pq_G ∧ Cond.selects yX11_valueAt.cls yX11_valueAt yX11_valueAt ∈ pq_G := ⟨pq_t6 69 rfl rfl, pq_t6 71 rfl rfl, pq_t0 57 rfl rfl⟩
set_option maxRecDepth 8000 in
theorem lv_X11_242 : Cond.methodLink RX11 242 yX11_rises ∈ pq_G ∧ Cond.instanceMethod yX11_rises ∈ pq_G ∧ Cond.selects yX11_rises.cls yX11_rises yX11_rises ∈ pq_G := ⟨pq_t5 182 rfl rfl, pq_t5 184 rfl rfl, pq_t0 39 rfl rfl⟩
set_option maxRecDepth 8000 in
theorem lv_X11_246 : Cond.methodLink RX11 246 yX11_notSide ∈ pq_G ∧ Cond.instanceMethod yX11_notSide ∈ pq_G ∧ Cond.selects yX11_notSide.cls yX11_notSide yX11_notSide ∈ pq_G := ⟨pq_t6 80 rfl rfl, pq_t6 82 rfl rfl, pq_t0 58 rfl rfl⟩
set_option maxRecDepth 8000 in
theorem lv_X11_249 : Cond.methodLink RX11 249 yX11_isSort ∈ pq_G ∧ Cond.static yX11_isSort ∈ pq_G := ⟨pq_t6 88 rfl rfl, pq_t6 89 rfl rfl⟩
set_option maxRecDepth 8000 in
theorem lv_X11_252 : Cond.methodLink RX11 252 yX11_firstFault ∈ pq_G ∧ Cond.instanceMethod yX11_firstFault ∈ pq_G ∧ Cond.selects yX11_firstFault.cls yX11_firstFault yX11_firstFault ∈ pq_G := ⟨pq_t6 91 rfl rfl, pq_t6 93 rfl rfl, pq_t0 59 rfl rfl⟩
set_option maxRecDepth 8000 in
theorem lv_X11_255 : Cond.methodLink RX11 255 yX11_leastOf ∈ pq_G ∧ Cond.instanceMethod yX11_leastOf ∈ pq_G ∧ Cond.selects yX11_leastOf.cls yX11_leastOf yX11_leastOf ∈ pq_G := ⟨pq_t6 99 rfl rfl, pq_t6 101 rfl rfl, pq_t0 60 rfl rfl⟩
set_option maxRecDepth 8000 in
theorem lv_X11_273 : Cond.methodLink RX11 273 yX11_firstPoint ∈ pq_G ∧ Cond.instanceMethod yX11_firstPoint ∈ pq_G ∧ Cond.selects yX11_firstPoint.cls yX11_firstPoint yX11_firstPoint ∈ pq_G := ⟨pq_t6 115 rfl rfl, pq_t6 117 rfl rfl, pq_t0 63 rfl rfl⟩
set_option maxRecDepth 8000 in
theorem lv_X11_276 : Cond.methodLink RX11 276 yX11_isPointOn ∈ pq_G ∧ Cond.instanceMethod yX11_isPointOn ∈ pq_G ∧ Cond.selects yX11_isPointOn.cls yX11_isPointOn yX11_isPointOn ∈ pq_G := ⟨pq_t6 119 rfl rfl, pq_t6 121 rfl rfl, pq_t0 64 rfl rfl⟩
set_option maxRecDepth 8000 in
theorem lv_X11_286 : Cond.methodLink RX11 286 yX11_nextPoint ∈ pq_G ∧ Cond.instanceMethod yX11_nextPoint ∈ pq_G ∧ Cond.selects yX11_nextPoint.cls yX11_nextPoint yX11_nextPoint ∈ pq_G := ⟨pq_t6 123 rfl rfl, pq_t6 125 rfl rfl, pq_t0 65 rfl rfl⟩
set_option maxRecDepth 8000 in
theorem lv_X11_289 : Cond.methodLink RX11 289 yX11_looks ∈ pq_G ∧ Cond.instanceMethod yX11_looks ∈ pq_G ∧ Cond.selects yX11_looks.cls yX11_looks yX11_looks ∈ pq_G := ⟨pq_t6 111 rfl rfl, pq_t6 113 rfl rfl, pq_t0 62 rfl rfl⟩
set_option maxRecDepth 8000 in
theorem lv_X11_293 : Cond.methodLink RX11 293 yX11_failsAt ∈ pq_G ∧ Cond.instanceMethod yX11_failsAt ∈ pq_G ∧ Cond.selects yX11_failsAt.cls yX11_failsAt yX11_failsAt ∈ pq_G := ⟨pq_t6 107 rfl rfl, pq_t6 109 rfl rfl, pq_t0 61 rfl rfl⟩
set_option maxRecDepth 8000 in
theorem lv_X11_296 : Cond.methodLink RX11 296 yX11_notLooked ∈ pq_G ∧ Cond.instanceMethod yX11_notLooked ∈ pq_G ∧ Cond.selects yX11_notLooked.cls yX11_notLooked yX11_notLooked ∈ pq_G := ⟨pq_t6 131 rfl rfl, pq_t6 133 rfl rfl, pq_t0 66 rfl rfl⟩
set_option maxRecDepth 8000 in
theorem lv_X11_299 : Cond.methodLink RX11 299 yX11_divisor ∈ pq_G ∧ Cond.static yX11_divisor ∈ pq_G := ⟨pq_t6 142 rfl rfl, pq_t6 143 rfl rfl⟩
set_option maxRecDepth 8000 in
theorem lv_X11_303 : Cond.methodLink RX11 303 yX11_partOf ∈ pq_G ∧ Cond.static yX11_partOf ∈ pq_G := ⟨pq_t6 139 rfl rfl, pq_t6 140 rfl rfl⟩
set_option maxRecDepth 8000 in
theorem lv_X11_307 : Cond.methodLink RX11 307 yX11_ways ∈ pq_G ∧ Cond.static yX11_ways ∈ pq_G := ⟨pq_t6 165 rfl rfl, pq_t6 166 rfl rfl⟩
set_option maxRecDepth 8000 in
theorem lv_X11_310 : Cond.methodLink RX11 310 yX11_isList ∈ pq_G ∧ Cond.static yX11_isList ∈ pq_G := ⟨pq_t6 153 rfl rfl, pq_t6 154 rfl rfl⟩
set_option maxRecDepth 8000 in
theorem lv_X11_315 : Cond.methodLink RX11 315 yX11_isTold ∈ pq_G ∧ Cond.instanceMethod yX11_isTold ∈ pq_G ∧ Cond.selects yX11_isTold.cls yX11_isTold yX11_isTold ∈ pq_G := ⟨pq_t6 157 rfl rfl, pq_t6 159 rfl rfl, pq_t0 67 rfl rfl⟩
set_option maxRecDepth 8000 in
theorem lv_X11_318 : Cond.methodLink RX11 318 yX11_wallOf ∈ pq_G ∧ Cond.instanceMethod yX11_wallOf ∈ pq_G ∧ Cond.selects yX11_wallOf.cls yX11_wallOf yX11_wallOf ∈ pq_G := ⟨pq_t6 161 rfl rfl, pq_t6 163 rfl rfl, pq_t0 68 rfl rfl⟩
set_option maxRecDepth 8000 in
theorem lv_X11_322 : Cond.methodLink RX11 322 yX11_at ∈ pq_G ∧ Cond.instanceMethod yX11_at ∈ pq_G ∧ Cond.selects yX11_at.cls yX11_at yX11_at ∈ pq_G := ⟨pq_t6 204 rfl rfl, pq_t6 206 rfl rfl, pq_t0 76 rfl rfl⟩
set_option maxRecDepth 8000 in
theorem lv_X11_330 : Cond.methodLink RX11 330 yX11_two ∈ pq_G ∧ Cond.instanceMethod yX11_two ∈ pq_G ∧ Cond.selects yX11_two.cls yX11_two yX11_two ∈ pq_G := ⟨pq_t6 208 rfl rfl, pq_t6 210 rfl rfl, pq_t0 77 rfl rfl⟩
set_option maxRecDepth 8000 in
theorem lv_X11_336 : Cond.methodLink RX11 336 yX11_minor ∈ pq_G ∧ Cond.instanceMethod yX11_minor ∈ pq_G ∧ Cond.selects yX11_minor.cls yX11_minor yX11_minor ∈ pq_G := ⟨pq_t6 200 rfl rfl, pq_t6 202 rfl rfl, pq_t0 75 rfl rfl⟩
set_option maxRecDepth 8000 in
theorem lv_X11_342 : Cond.methodLink RX11 342 yX11_findsRows ∈ pq_G ∧ Cond.instanceMethod yX11_findsRows ∈ pq_G ∧ Cond.selects yX11_findsRows.cls yX11_findsRows yX11_findsRows ∈ pq_G := ⟨pq_t6 196 rfl rfl, pq_t6 198 rfl rfl, pq_t0 74 rfl rfl⟩
set_option maxRecDepth 8000 in
theorem lv_X11_346 : Cond.methodLink RX11 346 yX11_laysColumn ∈ pq_G ∧ Cond.instanceMethod yX11_laysColumn ∈ pq_G ∧ Cond.selects yX11_laysColumn.cls yX11_laysColumn yX11_laysColumn ∈ pq_G := ⟨pq_t6 188 rfl rfl, pq_t6 190 rfl rfl, pq_t0 72 rfl rfl⟩
set_option maxRecDepth 8000 in
theorem lv_X11_349 : Cond.methodLink RX11 349 yX11_isNew ∈ pq_G ∧ Cond.instanceMethod yX11_isNew ∈ pq_G ∧ Cond.selects yX11_isNew.cls yX11_isNew yX11_isNew ∈ pq_G := ⟨pq_t6 192 rfl rfl, pq_t6 194 rfl rfl, pq_t0 73 rfl rfl⟩
set_option maxRecDepth 8000 in
theorem lv_X11_352 : Cond.methodLink RX11 352 yX11_upOf ∈ pq_G ∧ Cond.instanceMethod yX11_upOf ∈ pq_G ∧ Cond.selects yX11_upOf.cls yX11_upOf yX11_upOf ∈ pq_G := ⟨pq_t6 216 rfl rfl, pq_t6 218 rfl rfl, pq_t0 79 rfl rfl⟩
set_option maxRecDepth 8000 in
theorem lv_X11_355 : Cond.methodLink RX11 355 yX11_isSmall ∈ pq_G ∧ Cond.instanceMethod yX11_isSmall ∈ pq_G ∧ Cond.selects yX11_isSmall.cls yX11_isSmall yX11_isSmall ∈ pq_G := ⟨pq_t6 180 rfl rfl, pq_t6 182 rfl rfl, pq_t0 70 rfl rfl⟩
set_option maxRecDepth 8000 in
theorem lv_X11_358 : Cond.methodLink RX11 358 yX11_isSetOf ∈ pq_G ∧ Cond.instanceMethod yX11_isSetOf ∈ pq_G ∧ Cond.selects yX11_isSetOf.cls yX11_isSetOf yX11_isSetOf ∈ pq_G := ⟨pq_t6 176 rfl rfl, pq_t6 178 rfl rfl, pq_t0 69 rfl rfl⟩
set_option maxRecDepth 8000 in
theorem lv_X11_361 : Cond.methodLink RX11 361 yX11_fillsColumns ∈ pq_G ∧ Cond.instanceMethod yX11_fillsColumns ∈ pq_G ∧ Cond.selects yX11_fillsColumns.cls yX11_fillsColumns yX11_fillsColumns ∈ pq_G := ⟨pq_t6 184 rfl rfl, pq_t6 186 rfl rfl, pq_t0 71 rfl rfl⟩
set_option maxRecDepth 8000 in
theorem lv_X11_364 : Cond.methodLink RX11 364 yX11_isMade ∈ pq_G ∧ Cond.instanceMethod yX11_isMade ∈ pq_G ∧ Cond.selects yX11_isMade.cls yX11_isMade yX11_isMade ∈ pq_G := ⟨pq_t6 212 rfl rfl, pq_t6 214 rfl rfl, pq_t0 78 rfl rfl⟩
set_option maxRecDepth 8000 in
theorem lv_X11_370 : Cond.methodLink RX11 370 yX11_puts ∈ pq_G ∧ Cond.instanceMethod yX11_puts ∈ pq_G ∧ Cond.selects yX11_puts.cls yX11_puts yX11_puts ∈ pq_G := ⟨pq_t6 228 rfl rfl, pq_t6 230 rfl rfl, pq_t0 81 rfl rfl⟩
set_option maxRecDepth 8000 in
theorem lv_X11_373 : Cond.methodLink RX11 373 yX11_putsNumber ∈ pq_G ∧ Cond.instanceMethod yX11_putsNumber ∈ pq_G ∧ Cond.selects yX11_putsNumber.cls yX11_putsNumber yX11_putsNumber ∈ pq_G := ⟨pq_t6 232 rfl rfl, pq_t6 234 rfl rfl, pq_t0 82 rfl rfl⟩
set_option maxRecDepth 8000 in
theorem lv_X11_376 : Cond.methodLink RX11 376 yX11_spells ∈ pq_G ∧ Cond.instanceMethod yX11_spells ∈ pq_G ∧ Cond.selects yX11_spells.cls yX11_spells yX11_spells ∈ pq_G := ⟨pq_t6 224 rfl rfl, pq_t6 226 rfl rfl, pq_t0 80 rfl rfl⟩
set_option maxRecDepth 8000 in
theorem lv_X11_385 : Cond.methodLink RX11 385 yX11_draw ∈ pq_G ∧ Cond.instanceMethod yX11_draw ∈ pq_G ∧ Cond.selects yX11_draw.cls yX11_draw yX11_draw ∈ pq_G := ⟨pq_t7 0 rfl rfl, pq_t7 2 rfl rfl, pq_t0 83 rfl rfl⟩
set_option maxRecDepth 8000 in
theorem lv_X11_388 : Cond.methodLink RX11 388 yX11_notPlace ∈ pq_G ∧ Cond.instanceMethod yX11_notPlace ∈ pq_G ∧ Cond.selects yX11_notPlace.cls yX11_notPlace yX11_notPlace ∈ pq_G := ⟨pq_t7 15 rfl rfl, pq_t7 17 rfl rfl, pq_t0 84 rfl rfl⟩
set_option maxRecDepth 8000 in
theorem lv_X11_398 : Cond.methodLink RX11 398 yX11_passOne ∈ pq_G ∧ Cond.instanceMethod yX11_passOne ∈ pq_G ∧ Cond.selects yX11_passOne.cls yX11_passOne yX11_passOne ∈ pq_G := ⟨pq_t7 39 rfl rfl, pq_t7 41 rfl rfl, pq_t0 86 rfl rfl⟩
set_option maxRecDepth 8000 in
theorem lv_X11_401 : Cond.methodLink RX11 401 yX11_passesAll ∈ pq_G ∧ Cond.instanceMethod yX11_passesAll ∈ pq_G ∧ Cond.selects yX11_passesAll.cls yX11_passesAll yX11_passesAll ∈ pq_G := ⟨pq_t7 35 rfl rfl, pq_t7 37 rfl rfl, pq_t0 85 rfl rfl⟩
set_option maxRecDepth 8000 in
theorem lv_X11_405 : Cond.methodLink RX11 405 yX11_allTerms ∈ pq_G ∧ Cond.instanceMethod yX11_allTerms ∈ pq_G ∧ Cond.selects yX11_allTerms.cls yX11_allTerms yX11_allTerms ∈ pq_G := ⟨pq_t7 51 rfl rfl, pq_t7 53 rfl rfl, pq_t0 87 rfl rfl⟩
set_option maxRecDepth 8000 in
theorem lv_X11_408 : Cond.methodLink RX11 408 yX11_clearOnes ∈ pq_G ∧ Cond.instanceMethod yX11_clearOnes ∈ pq_G ∧ Cond.selects yX11_clearOnes.cls yX11_clearOnes yX11_clearOnes ∈ pq_G := ⟨pq_t7 55 rfl rfl, pq_t7 57 rfl rfl, pq_t0 88 rfl rfl⟩
set_option maxRecDepth 8000 in
theorem lb_X10_refuse : pq_LB yX10_refuse cX10_refuse 2 (some .int) 1 := ⟨pq_t1 1 rfl rfl, pq_t2 56 rfl rfl, by decide +kernel, by decide +kernel, by decide +kernel⟩
set_option maxRecDepth 8000 in
theorem lb_X3_add : pq_LB yX3_add cX3_add 2 none 1 := ⟨pq_t1 5 rfl rfl, pq_t2 60 rfl rfl, by decide +kernel, by decide +kernel, by decide +kernel⟩
set_option maxRecDepth 8000 in
theorem lb_X6_isFull : pq_LB yX6_isFull cX6_isFull 1 (some .boolean) 0 := ⟨pq_t1 2 rfl rfl, pq_t2 68 rfl rfl, by decide +kernel, by decide +kernel, by decide +kernel⟩
set_option maxRecDepth 8000 in
theorem lb_X2_read : pq_LB yX2_read cX2_read 6 (some .int) 2 := ⟨pq_t1 6 rfl rfl, pq_t2 72 rfl rfl, by decide +kernel, by decide +kernel, by decide +kernel⟩
set_option maxRecDepth 8000 in
theorem lb_X10_cameOr : pq_LB yX10_cameOr cX10_cameOr 2 (some .int) 1 := ⟨pq_t1 1 rfl rfl, pq_t2 111 rfl rfl, by decide +kernel, by decide +kernel, by decide +kernel⟩
set_option maxRecDepth 8000 in
theorem lb_X0_read : pq_LB yX0_read cX0_read 2 (some .int) 1 := ⟨pq_t1 7 rfl rfl, pq_t2 119 rfl rfl, by decide +kernel, by decide +kernel, by decide +kernel⟩
set_option maxRecDepth 8000 in
theorem lb_X6_perform : pq_LB yX6_perform cX6_perform 4 (some .int) 1 := ⟨pq_t1 2 rfl rfl, pq_t2 202 rfl rfl, by decide +kernel, by decide +kernel, by decide +kernel⟩
set_option maxRecDepth 8000 in
theorem lb_X6_lacks : pq_LB yX6_lacks cX6_lacks 2 (some .boolean) 1 := ⟨pq_t1 2 rfl rfl, pq_t2 210 rfl rfl, by decide +kernel, by decide +kernel, by decide +kernel⟩
set_option maxRecDepth 8000 in
theorem lb_X10_lacksTerm : pq_LB yX10_lacksTerm cX10_lacksTerm 3 (some .boolean) 2 := ⟨pq_t1 1 rfl rfl, pq_t3 71 rfl rfl, by decide +kernel, by decide +kernel, by decide +kernel⟩
set_option maxRecDepth 8000 in
theorem lb_X10_refuseFarInt : pq_LB yX10_refuseFarInt cX10_refuseFarInt 2 (some .int) 1 := ⟨pq_t1 1 rfl rfl, pq_t3 76 rfl rfl, by decide +kernel, by decide +kernel, by decide +kernel⟩
set_option maxRecDepth 8000 in
theorem lb_X8_add : pq_LB yX8_add cX8_add 5 none 4 := ⟨pq_t1 10 rfl rfl, pq_t3 83 rfl rfl, by decide +kernel, by decide +kernel, by decide +kernel⟩
set_option maxRecDepth 8000 in
theorem lb_X10_notBelow : pq_LB yX10_notBelow cX10_notBelow 2 (some .boolean) 2 := ⟨pq_t1 1 rfl rfl, pq_t2 83 rfl rfl, by decide +kernel, by decide +kernel, by decide +kernel⟩
set_option maxRecDepth 8000 in
theorem lb_X10_termsOf : pq_LB yX10_termsOf cX10_termsOf 1 (some .int) 1 := ⟨pq_t1 1 rfl rfl, pq_t2 226 rfl rfl, by decide +kernel, by decide +kernel, by decide +kernel⟩
set_option maxRecDepth 8000 in
theorem lb_X1_howMany : pq_LB yX1_howMany cX1_howMany 5 (some .int) 1 := ⟨pq_t1 4 rfl rfl, pq_t3 98 rfl rfl, by decide +kernel, by decide +kernel, by decide +kernel⟩
set_option maxRecDepth 8000 in
theorem lb_X10_isUnder : pq_LB yX10_isUnder cX10_isUnder 4 (some .boolean) 2 := ⟨pq_t1 1 rfl rfl, pq_t3 107 rfl rfl, by decide +kernel, by decide +kernel, by decide +kernel⟩
set_option maxRecDepth 8000 in
theorem lb_X1_at : pq_LB yX1_at cX1_at 4 (some .int) 1 := ⟨pq_t1 4 rfl rfl, pq_t3 4 rfl rfl, by decide +kernel, by decide +kernel, by decide +kernel⟩
set_option maxRecDepth 8000 in
theorem lb_X10_refuseFar : pq_LB yX10_refuseFar cX10_refuseFar 2 (some .long) 1 := ⟨pq_t1 1 rfl rfl, pq_t3 122 rfl rfl, by decide +kernel, by decide +kernel, by decide +kernel⟩
set_option maxRecDepth 8000 in
theorem lb_X10_workOn : pq_LB yX10_workOn cX10_workOn 3 (some (.object "FormsAboveNought$Work")) 2 := ⟨pq_t1 1 rfl rfl, pq_t3 127 rfl rfl, by decide +kernel, by decide +kernel, by decide +kernel⟩
set_option maxRecDepth 8000 in
theorem lb_X9_worth : pq_LB yX9_worth cX9_worth 13 (some .long) 3 := ⟨pq_t1 3 rfl rfl, pq_t3 132 rfl rfl, by decide +kernel, by decide +kernel, by decide +kernel⟩
set_option maxRecDepth 8000 in
theorem lb_X10_isSide : pq_LB yX10_isSide cX10_isSide 1 (some .boolean) 1 := ⟨pq_t1 1 rfl rfl, pq_t3 53 rfl rfl, by decide +kernel, by decide +kernel, by decide +kernel⟩
set_option maxRecDepth 8000 in
theorem lb_X10_placesOn : pq_LB yX10_placesOn cX10_placesOn 3 (some .int) 2 := ⟨pq_t1 1 rfl rfl, pq_t2 229 rfl rfl, by decide +kernel, by decide +kernel, by decide +kernel⟩
set_option maxRecDepth 8000 in
theorem lb_X9_raise : pq_LB yX9_raise cX9_raise 4 none 2 := ⟨pq_t1 3 rfl rfl, pq_t3 41 rfl rfl, by decide +kernel, by decide +kernel, by decide +kernel⟩
set_option maxRecDepth 8000 in
theorem lb_X9_among : pq_LB yX9_among cX9_among 3 (some .long) 2 := ⟨pq_t1 3 rfl rfl, pq_t3 143 rfl rfl, by decide +kernel, by decide +kernel, by decide +kernel⟩
set_option maxRecDepth 8000 in
theorem lb_X9_firstFault : pq_LB yX9_firstFault cX9_firstFault 4 (some .int) 2 := ⟨pq_t1 3 rfl rfl, pq_t3 151 rfl rfl, by decide +kernel, by decide +kernel, by decide +kernel⟩
set_option maxRecDepth 8000 in
theorem lb_X9_leastLift : pq_LB yX9_leastLift cX9_leastLift 4 (some .int) 2 := ⟨pq_t1 3 rfl rfl, pq_t3 163 rfl rfl, by decide +kernel, by decide +kernel, by decide +kernel⟩
set_option maxRecDepth 8000 in
theorem lb_X9_failingSize : pq_LB yX9_failingSize cX9_failingSize 4 (some .int) 2 := ⟨pq_t1 3 rfl rfl, pq_t3 172 rfl rfl, by decide +kernel, by decide +kernel, by decide +kernel⟩
set_option maxRecDepth 8000 in
theorem lb_X9_failingPoint : pq_LB yX9_failingPoint cX9_failingPoint 5 (some .int) 3 := ⟨pq_t1 3 rfl rfl, pq_t3 176 rfl rfl, by decide +kernel, by decide +kernel, by decide +kernel⟩
set_option maxRecDepth 8000 in
theorem lb_X10_pointsRefused : pq_LB yX10_pointsRefused cX10_pointsRefused 5 (some .int) 4 := ⟨pq_t1 1 rfl rfl, pq_t3 191 rfl rfl, by decide +kernel, by decide +kernel, by decide +kernel⟩
set_option maxRecDepth 8000 in
theorem lb_X9_lowestPoint : pq_LB yX9_lowestPoint cX9_lowestPoint 9 (some .int) 2 := ⟨pq_t1 3 rfl rfl, pq_t3 195 rfl rfl, by decide +kernel, by decide +kernel, by decide +kernel⟩
set_option maxRecDepth 8000 in
theorem lb_X9_worthAt : pq_LB yX9_worthAt cX9_worthAt 7 (some .long) 3 := ⟨pq_t1 3 rfl rfl, pq_t3 180 rfl rfl, by decide +kernel, by decide +kernel, by decide +kernel⟩
set_option maxRecDepth 8000 in
theorem lb_X9_pointsAbove : pq_LB yX9_pointsAbove cX9_pointsAbove 5 (some .int) 2 := ⟨pq_t1 3 rfl rfl, pq_t3 204 rfl rfl, by decide +kernel, by decide +kernel, by decide +kernel⟩
set_option maxRecDepth 8000 in
theorem lb_X10_partOf : pq_LB yX10_partOf cX10_partOf 7 (some .long) 3 := ⟨pq_t1 1 rfl rfl, pq_t3 207 rfl rfl, by decide +kernel, by decide +kernel, by decide +kernel⟩
set_option maxRecDepth 8000 in
theorem lb_X4_misses : pq_LB yX4_misses cX4_misses 2 (some .boolean) 1 := ⟨pq_t1 11 rfl rfl, pq_t3 225 rfl rfl, by decide +kernel, by decide +kernel, by decide +kernel⟩
set_option maxRecDepth 8000 in
theorem lb_X4_isPolynomial : pq_LB yX4_isPolynomial cX4_isPolynomial 3 (some .boolean) 1 := ⟨pq_t1 11 rfl rfl, pq_t3 229 rfl rfl, by decide +kernel, by decide +kernel, by decide +kernel⟩
set_option maxRecDepth 8000 in
theorem lb_X4_wall : pq_LB yX4_wall cX4_wall 7 (some .long) 3 := ⟨pq_t1 11 rfl rfl, pq_t3 235 rfl rfl, by decide +kernel, by decide +kernel, by decide +kernel⟩
set_option maxRecDepth 8000 in
theorem lb_X4_wallsClear : pq_LB yX4_wallsClear cX4_wallsClear 5 (some .boolean) 3 := ⟨pq_t1 11 rfl rfl, pq_t4 9 rfl rfl, by decide +kernel, by decide +kernel, by decide +kernel⟩
set_option maxRecDepth 8000 in
theorem lb_X6_lacksOf : pq_LB yX6_lacksOf cX6_lacksOf 2 (some .boolean) 1 := ⟨pq_t1 2 rfl rfl, pq_t4 19 rfl rfl, by decide +kernel, by decide +kernel, by decide +kernel⟩
set_option maxRecDepth 8000 in
theorem lb_X6_canMake : pq_LB yX6_canMake cX6_canMake 4 (some .boolean) 2 := ⟨pq_t1 2 rfl rfl, pq_t4 23 rfl rfl, by decide +kernel, by decide +kernel, by decide +kernel⟩
set_option maxRecDepth 8000 in
theorem lb_X5_makes : pq_LB yX5_makes cX5_makes 6 (some .boolean) 3 := ⟨pq_t1 9 rfl rfl, pq_t4 34 rfl rfl, by decide +kernel, by decide +kernel, by decide +kernel⟩
set_option maxRecDepth 8000 in
theorem lb_X5_fraction : pq_LB yX5_fraction cX5_fraction 6 (some .long) 3 := ⟨pq_t1 9 rfl rfl, pq_t4 56 rfl rfl, by decide +kernel, by decide +kernel, by decide +kernel⟩
set_option maxRecDepth 8000 in
theorem lb_X6_bringSum : pq_LB yX6_bringSum cX6_bringSum 4 (some .boolean) 2 := ⟨pq_t1 2 rfl rfl, pq_t2 215 rfl rfl, by decide +kernel, by decide +kernel, by decide +kernel⟩
set_option maxRecDepth 8000 in
theorem lb_X6_bringProduct : pq_LB yX6_bringProduct cX6_bringProduct 7 (some .boolean) 2 := ⟨pq_t1 2 rfl rfl, pq_t3 26 rfl rfl, by decide +kernel, by decide +kernel, by decide +kernel⟩
set_option maxRecDepth 8000 in
theorem lb_X6_bringLift : pq_LB yX6_bringLift cX6_bringLift 3 (some .boolean) 2 := ⟨pq_t1 2 rfl rfl, pq_t3 37 rfl rfl, by decide +kernel, by decide +kernel, by decide +kernel⟩
set_option maxRecDepth 8000 in
theorem lb_X6_bringNegative : pq_LB yX6_bringNegative cX6_bringNegative 3 (some .boolean) 1 := ⟨pq_t1 2 rfl rfl, pq_t3 50 rfl rfl, by decide +kernel, by decide +kernel, by decide +kernel⟩
set_option maxRecDepth 8000 in
theorem lb_X6_bringOn : pq_LB yX6_bringOn cX6_bringOn 3 (some .boolean) 2 := ⟨pq_t1 2 rfl rfl, pq_t3 57 rfl rfl, by decide +kernel, by decide +kernel, by decide +kernel⟩
set_option maxRecDepth 8000 in
theorem lb_X7_spell : pq_LB yX7_spell cX7_spell 5 none 2 := ⟨pq_t1 8 rfl rfl, pq_t4 91 rfl rfl, by decide +kernel, by decide +kernel, by decide +kernel⟩
set_option maxRecDepth 8000 in
theorem lb_X10_drawLots : pq_LB yX10_drawLots cX10_drawLots 11 (some .int) 4 := ⟨pq_t1 1 rfl rfl, pq_t4 116 rfl rfl, by decide +kernel, by decide +kernel, by decide +kernel⟩
set_option maxRecDepth 8000 in
theorem lb_X4_renew : pq_LB yX4_renew cX4_renew 4 none 2 := ⟨pq_t1 11 rfl rfl, pq_t4 133 rfl rfl, by decide +kernel, by decide +kernel, by decide +kernel⟩
set_option maxRecDepth 8000 in
theorem lb_X8_takeBack : pq_LB yX8_takeBack cX8_takeBack 3 none 1 := ⟨pq_t1 10 rfl rfl, pq_t4 157 rfl rfl, by decide +kernel, by decide +kernel, by decide +kernel⟩
set_option maxRecDepth 8000 in
theorem lb_X6_keepImage : pq_LB yX6_keepImage cX6_keepImage 2 none 0 := ⟨pq_t1 2 rfl rfl, pq_t4 166 rfl rfl, by decide +kernel, by decide +kernel, by decide +kernel⟩
set_option maxRecDepth 8000 in
theorem lb_X6_restoreImage : pq_LB yX6_restoreImage cX6_restoreImage 2 none 0 := ⟨pq_t1 2 rfl rfl, pq_t4 178 rfl rfl, by decide +kernel, by decide +kernel, by decide +kernel⟩
set_option maxRecDepth 8000 in
theorem lb_X6_termsOfAll : pq_LB yX6_termsOfAll cX6_termsOfAll 3 (some .int) 0 := ⟨pq_t1 2 rfl rfl, pq_t4 186 rfl rfl, by decide +kernel, by decide +kernel, by decide +kernel⟩
set_option maxRecDepth 8000 in
theorem lb_X6_clearForms : pq_LB yX6_clearForms cX6_clearForms 3 (some .int) 0 := ⟨pq_t1 2 rfl rfl, pq_t4 190 rfl rfl, by decide +kernel, by decide +kernel, by decide +kernel⟩
set_option maxRecDepth 8000 in
theorem lb_X9_takeOn : pq_LB yX9_takeOn cX9_takeOn 5 none 2 := ⟨pq_t1 3 rfl rfl, pq_t2 219 rfl rfl, by decide +kernel, by decide +kernel, by decide +kernel⟩
set_option maxRecDepth 8000 in
theorem lb_X10_termOf : pq_LB yX10_termOf cX10_termOf 2 (some .int) 2 := ⟨pq_t1 1 rfl rfl, pq_t2 107 rfl rfl, by decide +kernel, by decide +kernel, by decide +kernel⟩
set_option maxRecDepth 8000 in
theorem lb_J6_bitCount_0f7a4 : pq_LB yJ6_bitCount_0f7a4 cJ6_bitCount_0f7a4 1 (some .int) 1 := ⟨pq_t1 17 rfl rfl, pq_t2 232 rfl rfl, by decide +kernel, by decide +kernel, by decide +kernel⟩
set_option maxRecDepth 8000 in
theorem lb_X10_commonOf : pq_LB yX10_commonOf cX10_commonOf 11 (some .long) 2 := ⟨pq_t1 1 rfl rfl, pq_t3 213 rfl rfl, by decide +kernel, by decide +kernel, by decide +kernel⟩
set_option maxRecDepth 8000 in
theorem lb_X10_nextSeed : pq_LB yX10_nextSeed cX10_nextSeed 1 (some .int) 1 := ⟨pq_t1 1 rfl rfl, pq_t4 119 rfl rfl, by decide +kernel, by decide +kernel, by decide +kernel⟩
set_option maxRecDepth 8000 in
theorem lb_X10_drawOf : pq_LB yX10_drawOf cX10_drawOf 1 (some .int) 1 := ⟨pq_t1 1 rfl rfl, pq_t4 124 rfl rfl, by decide +kernel, by decide +kernel, by decide +kernel⟩
set_option maxRecDepth 8000 in
theorem lb_X0_readAct : pq_LB yX0_readAct cX0_readAct 1 (some .boolean) 0 := ⟨pq_t1 7 rfl rfl, pq_t2 123 rfl rfl, by decide +kernel, by decide +kernel, by decide +kernel⟩
set_option maxRecDepth 8000 in
theorem lb_X3_at : pq_LB yX3_at cX3_at 2 (some .int) 1 := ⟨pq_t1 5 rfl rfl, pq_t2 80 rfl rfl, by decide +kernel, by decide +kernel, by decide +kernel⟩
set_option maxRecDepth 8000 in
theorem lb_X0_wordAt : pq_LB yX0_wordAt cX0_wordAt 5 (some .int) 1 := ⟨pq_t1 7 rfl rfl, pq_t2 127 rfl rfl, by decide +kernel, by decide +kernel, by decide +kernel⟩
set_option maxRecDepth 8000 in
theorem lb_X0_textOf : pq_LB yX0_textOf cX0_textOf 1 (some (.object "java/lang/String")) 1 := ⟨pq_t1 7 rfl rfl, pq_t2 134 rfl rfl, by decide +kernel, by decide +kernel, by decide +kernel⟩
set_option maxRecDepth 8000 in
theorem lb_X0_readNumber : pq_LB yX0_readNumber cX0_readNumber 1 (some .int) 0 := ⟨pq_t1 7 rfl rfl, pq_t2 196 rfl rfl, by decide +kernel, by decide +kernel, by decide +kernel⟩
set_option maxRecDepth 8000 in
theorem lb_X3_hasDigit : pq_LB yX3_hasDigit cX3_hasDigit 2 (some .boolean) 1 := ⟨pq_t1 5 rfl rfl, pq_t2 95 rfl rfl, by decide +kernel, by decide +kernel, by decide +kernel⟩
set_option maxRecDepth 8000 in
theorem lb_X3_hasSmall : pq_LB yX3_hasSmall cX3_hasSmall 2 (some .boolean) 1 := ⟨pq_t1 5 rfl rfl, pq_t2 131 rfl rfl, by decide +kernel, by decide +kernel, by decide +kernel⟩
set_option maxRecDepth 8000 in
theorem lb_X3_hasText : pq_LB yX3_hasText cX3_hasText 4 (some .boolean) 2 := ⟨pq_t1 5 rfl rfl, pq_t2 153 rfl rfl, by decide +kernel, by decide +kernel, by decide +kernel⟩
set_option maxRecDepth 8000 in
theorem lb_X10_behindA : pq_LB yX10_behindA cX10_behindA 2 (some .int) 1 := ⟨pq_t1 1 rfl rfl, pq_t3 7 rfl rfl, by decide +kernel, by decide +kernel, by decide +kernel⟩
set_option maxRecDepth 8000 in
theorem lb_X1_has : pq_LB yX1_has cX1_has 4 (some .int) 3 := ⟨pq_t1 4 rfl rfl, pq_t3 12 rfl rfl, by decide +kernel, by decide +kernel, by decide +kernel⟩
set_option maxRecDepth 8000 in
theorem lb_X1_makeNought : pq_LB yX1_makeNought cX1_makeNought 2 none 0 := ⟨pq_t1 4 rfl rfl, pq_t2 76 rfl rfl, by decide +kernel, by decide +kernel, by decide +kernel⟩
set_option maxRecDepth 8000 in
theorem lb_X2_readMember : pq_LB yX2_readMember cX2_readMember 6 (some .boolean) 2 := ⟨pq_t1 6 rfl rfl, pq_t2 87 rfl rfl, by decide +kernel, by decide +kernel, by decide +kernel⟩
set_option maxRecDepth 8000 in
theorem lb_X2_readNumber : pq_LB yX2_readNumber cX2_readNumber 3 (some .int) 0 := ⟨pq_t1 6 rfl rfl, pq_t2 91 rfl rfl, by decide +kernel, by decide +kernel, by decide +kernel⟩
set_option maxRecDepth 8000 in
theorem lb_X2_readPower : pq_LB yX2_readPower cX2_readPower 3 (some .boolean) 1 := ⟨pq_t1 6 rfl rfl, pq_t2 100 rfl rfl, by decide +kernel, by decide +kernel, by decide +kernel⟩
set_option maxRecDepth 8000 in
theorem lb_X2_fits : pq_LB yX2_fits cX2_fits 2 (some .boolean) 1 := ⟨pq_t1 6 rfl rfl, pq_t2 104 rfl rfl, by decide +kernel, by decide +kernel, by decide +kernel⟩
set_option maxRecDepth 8000 in
theorem lb_X4_ways : pq_LB yX4_ways cX4_ways 5 (some .long) 2 := ⟨pq_t1 11 rfl rfl, pq_t3 238 rfl rfl, by decide +kernel, by decide +kernel, by decide +kernel⟩
set_option maxRecDepth 8000 in
theorem lb_X10_fails : pq_LB yX10_fails cX10_fails 3 (some .boolean) 2 := ⟨pq_t1 1 rfl rfl, pq_t3 155 rfl rfl, by decide +kernel, by decide +kernel, by decide +kernel⟩
set_option maxRecDepth 8000 in
theorem lb_X5_fill : pq_LB yX5_fill cX5_fill 4 none 2 := ⟨pq_t1 9 rfl rfl, pq_t4 39 rfl rfl, by decide +kernel, by decide +kernel, by decide +kernel⟩
set_option maxRecDepth 8000 in
theorem lb_X5_lead : pq_LB yX5_lead cX5_lead 6 (some .int) 2 := ⟨pq_t1 9 rfl rfl, pq_t4 44 rfl rfl, by decide +kernel, by decide +kernel, by decide +kernel⟩
set_option maxRecDepth 8000 in
theorem lb_X5_leader : pq_LB yX5_leader cX5_leader 4 (some .int) 2 := ⟨pq_t1 9 rfl rfl, pq_t4 48 rfl rfl, by decide +kernel, by decide +kernel, by decide +kernel⟩
set_option maxRecDepth 8000 in
theorem lb_X5_takeAway : pq_LB yX5_takeAway cX5_takeAway 9 none 3 := ⟨pq_t1 9 rfl rfl, pq_t4 52 rfl rfl, by decide +kernel, by decide +kernel, by decide +kernel⟩
set_option maxRecDepth 8000 in
theorem lb_X1_copyOf : pq_LB yX1_copyOf cX1_copyOf 3 none 1 := ⟨pq_t1 4 rfl rfl, pq_t4 170 rfl rfl, by decide +kernel, by decide +kernel, by decide +kernel⟩
set_option maxRecDepth 8000 in
theorem lb_X6_isSmall : pq_LB yX6_isSmall cX6_isSmall 2 (some .boolean) 1 := ⟨pq_t1 2 rfl rfl, pq_t4 27 rfl rfl, by decide +kernel, by decide +kernel, by decide +kernel⟩
set_option maxRecDepth 8000 in
theorem lb_X6_performOne : pq_LB yX6_performOne cX6_performOne 4 (some .boolean) 3 := ⟨pq_t1 2 rfl rfl, pq_t2 206 rfl rfl, by decide +kernel, by decide +kernel, by decide +kernel⟩
set_option maxRecDepth 8000 in
theorem lb_X6_settle : pq_LB yX6_settle cX6_settle 4 (some .boolean) 0 := ⟨pq_t1 2 rfl rfl, pq_t3 18 rfl rfl, by decide +kernel, by decide +kernel, by decide +kernel⟩
set_option maxRecDepth 8000 in
theorem lb_X9_makeNought : pq_LB yX9_makeNought cX9_makeNought 3 none 1 := ⟨pq_t1 3 rfl rfl, pq_t2 223 rfl rfl, by decide +kernel, by decide +kernel, by decide +kernel⟩
set_option maxRecDepth 8000 in
theorem lb_X6_addTimes : pq_LB yX6_addTimes cX6_addTimes 8 none 4 := ⟨pq_t1 2 rfl rfl, pq_t3 32 rfl rfl, by decide +kernel, by decide +kernel, by decide +kernel⟩
set_option maxRecDepth 8000 in
theorem lb_X7_spellTerm : pq_LB yX7_spellTerm cX7_spellTerm 7 none 4 := ⟨pq_t1 8 rfl rfl, pq_t4 95 rfl rfl, by decide +kernel, by decide +kernel, by decide +kernel⟩
set_option maxRecDepth 8000 in
theorem lb_X7_add : pq_LB yX7_add cX7_add 2 none 1 := ⟨pq_t1 8 rfl rfl, pq_t4 100 rfl rfl, by decide +kernel, by decide +kernel, by decide +kernel⟩
set_option maxRecDepth 8000 in
theorem lb_X7_spellNumber : pq_LB yX7_spellNumber cX7_spellNumber 4 none 1 := ⟨pq_t1 8 rfl rfl, pq_t4 105 rfl rfl, by decide +kernel, by decide +kernel, by decide +kernel⟩
set_option maxRecDepth 8000 in
theorem lb_X7_spellPower : pq_LB yX7_spellPower cX7_spellPower 3 none 2 := ⟨pq_t1 8 rfl rfl, pq_t4 109 rfl rfl, by decide +kernel, by decide +kernel, by decide +kernel⟩
set_option maxRecDepth 8000 in
theorem lb_X10_numberOn : pq_LB yX10_numberOn cX10_numberOn 3 (some .int) 3 := ⟨pq_t1 1 rfl rfl, pq_t2 239 rfl rfl, by decide +kernel, by decide +kernel, by decide +kernel⟩
set_option maxRecDepth 8000 in
theorem lb_X9_raiseOnce : pq_LB yX9_raiseOnce cX9_raiseOnce 7 none 1 := ⟨pq_t1 3 rfl rfl, pq_t3 45 rfl rfl, by decide +kernel, by decide +kernel, by decide +kernel⟩
set_option maxRecDepth 8000 in
theorem lb_X10_letter : pq_LB yX10_letter cX10_letter 2 (some .int) 1 := ⟨pq_t1 1 rfl rfl, pq_t2 52 rfl rfl, by decide +kernel, by decide +kernel, by decide +kernel⟩
set_option maxRecDepth 8000 in
theorem lb_X11_letter : pq_LB yX11_letter cX11_letter 2 (some .int) 1 := ⟨pq_t1 12 rfl rfl, pq_t5 208 rfl rfl, by decide +kernel, by decide +kernel, by decide +kernel⟩
set_option maxRecDepth 8000 in
theorem lb_X10_form : pq_LB yX10_form cX10_form 2 (some .int) 0 := ⟨pq_t1 1 rfl rfl, pq_t2 64 rfl rfl, by decide +kernel, by decide +kernel, by decide +kernel⟩
set_option maxRecDepth 8000 in
theorem lb_X11_form : pq_LB yX11_form cX11_form 2 (some .int) 0 := ⟨pq_t1 12 rfl rfl, pq_t5 212 rfl rfl, by decide +kernel, by decide +kernel, by decide +kernel⟩
set_option maxRecDepth 8000 in
theorem lb_X10_acts : pq_LB yX10_acts cX10_acts 2 (some .int) 0 := ⟨pq_t1 1 rfl rfl, pq_t2 115 rfl rfl, by decide +kernel, by decide +kernel, by decide +kernel⟩
set_option maxRecDepth 8000 in
theorem lb_X11_acts : pq_LB yX11_acts cX11_acts 4 (some .int) 0 := ⟨pq_t1 12 rfl rfl, pq_t5 236 rfl rfl, by decide +kernel, by decide +kernel, by decide +kernel⟩
set_option maxRecDepth 8000 in
theorem lb_X10_drop : pq_LB yX10_drop cX10_drop 1 (some .int) 0 := ⟨pq_t1 1 rfl rfl, pq_t3 62 rfl rfl, by decide +kernel, by decide +kernel, by decide +kernel⟩
set_option maxRecDepth 8000 in
theorem lb_X11_drop : pq_LB yX11_drop cX11_drop 1 (some .int) 0 := ⟨pq_t1 12 rfl rfl, pq_t6 24 rfl rfl, by decide +kernel, by decide +kernel, by decide +kernel⟩
set_option maxRecDepth 8000 in
theorem lb_X10_change : pq_LB yX10_change cX10_change 6 (some .int) 3 := ⟨pq_t1 1 rfl rfl, pq_t3 66 rfl rfl, by decide +kernel, by decide +kernel, by decide +kernel⟩
set_option maxRecDepth 8000 in
theorem lb_X11_change : pq_LB yX11_change cX11_change 7 (some .int) 3 := ⟨pq_t1 12 rfl rfl, pq_t6 28 rfl rfl, by decide +kernel, by decide +kernel, by decide +kernel⟩
set_option maxRecDepth 8000 in
theorem lb_X10_turn : pq_LB yX10_turn cX10_turn 6 (some .int) 3 := ⟨pq_t1 1 rfl rfl, pq_t3 90 rfl rfl, by decide +kernel, by decide +kernel, by decide +kernel⟩
set_option maxRecDepth 8000 in
theorem lb_X11_turn : pq_LB yX11_turn cX11_turn 6 (some .int) 3 := ⟨pq_t1 12 rfl rfl, pq_t6 43 rfl rfl, by decide +kernel, by decide +kernel, by decide +kernel⟩
set_option maxRecDepth 8000 in
theorem lb_X10_of : pq_LB yX10_of cX10_of 4 (some .int) 2 := ⟨pq_t1 1 rfl rfl, pq_t3 94 rfl rfl, by decide +kernel, by decide +kernel, by decide +kernel⟩
set_option maxRecDepth 8000 in
theorem lb_X11_of : pq_LB yX11_of cX11_of 3 (some .int) 2 := ⟨pq_t1 12 rfl rfl, pq_t6 47 rfl rfl, by decide +kernel, by decide +kernel, by decide +kernel⟩
set_option maxRecDepth 8000 in
theorem lb_X10_taken : pq_LB yX10_taken cX10_taken 4 (some .int) 2 := ⟨pq_t1 1 rfl rfl, pq_t3 104 rfl rfl, by decide +kernel, by decide +kernel, by decide +kernel⟩
set_option maxRecDepth 8000 in
theorem lb_X11_taken : pq_LB yX11_taken cX11_taken 6 (some .int) 2 := ⟨pq_t1 12 rfl rfl, pq_t6 55 rfl rfl, by decide +kernel, by decide +kernel, by decide +kernel⟩
set_option maxRecDepth 8000 in
theorem lb_X10_coefficient : pq_LB yX10_coefficient cX10_coefficient 3 (some .int) 2 := ⟨pq_t1 1 rfl rfl, pq_t3 113 rfl rfl, by decide +kernel, by decide +kernel, by decide +kernel⟩
set_option maxRecDepth 8000 in
theorem lb_X11_coefficient : pq_LB yX11_coefficient cX11_coefficient 3 (some .int) 2 := ⟨pq_t1 12 rfl rfl, pq_t6 59 rfl rfl, by decide +kernel, by decide +kernel, by decide +kernel⟩
set_option maxRecDepth 8000 in
theorem lb_X10_value : pq_LB yX10_value cX10_value 5 (some .long) 4 := ⟨pq_t1 1 rfl rfl, pq_t3 118 rfl rfl, by decide +kernel, by decide +kernel, by decide +kernel⟩
set_option maxRecDepth 8000 in
theorem lb_X11_value : pq_LB yX11_value cX11_value 6 (some .long) 4 := ⟨pq_t1 12 rfl rfl, pq_t6 63 rfl rfl, by decide +kernel, by decide +kernel, by decide +kernel⟩
set_option maxRecDepth 8000 in
theorem lb_X10_lifted : pq_LB yX10_lifted cX10_lifted 6 (some .long) 4 := ⟨pq_t1 1 rfl rfl, pq_t3 136 rfl rfl, by decide +kernel, by decide +kernel, by decide +kernel⟩
set_option maxRecDepth 8000 in
theorem lb_X11_lifted : pq_LB yX11_lifted cX11_lifted 8 (some .long) 4 := ⟨pq_t1 12 rfl rfl, pq_t6 79 rfl rfl, by decide +kernel, by decide +kernel, by decide +kernel⟩
set_option maxRecDepth 8000 in
theorem lb_X10_fault : pq_LB yX10_fault cX10_fault 6 (some .int) 4 := ⟨pq_t1 1 rfl rfl, pq_t3 147 rfl rfl, by decide +kernel, by decide +kernel, by decide +kernel⟩
set_option maxRecDepth 8000 in
theorem lb_X11_fault : pq_LB yX11_fault cX11_fault 6 (some .int) 4 := ⟨pq_t1 12 rfl rfl, pq_t6 87 rfl rfl, by decide +kernel, by decide +kernel, by decide +kernel⟩
set_option maxRecDepth 8000 in
theorem lb_X10_least : pq_LB yX10_least cX10_least 4 (some .int) 3 := ⟨pq_t1 1 rfl rfl, pq_t3 159 rfl rfl, by decide +kernel, by decide +kernel, by decide +kernel⟩
set_option maxRecDepth 8000 in
theorem lb_X11_least : pq_LB yX11_least cX11_least 5 (some .int) 3 := ⟨pq_t1 12 rfl rfl, pq_t6 98 rfl rfl, by decide +kernel, by decide +kernel, by decide +kernel⟩
set_option maxRecDepth 8000 in
theorem lb_X10_failing : pq_LB yX10_failing cX10_failing 7 (some .int) 4 := ⟨pq_t1 1 rfl rfl, pq_t3 168 rfl rfl, by decide +kernel, by decide +kernel, by decide +kernel⟩
set_option maxRecDepth 8000 in
theorem lb_X11_failing : pq_LB yX11_failing cX11_failing 6 (some .int) 4 := ⟨pq_t1 12 rfl rfl, pq_t6 106 rfl rfl, by decide +kernel, by decide +kernel, by decide +kernel⟩
set_option maxRecDepth 8000 in
theorem lb_X10_lowest : pq_LB yX10_lowest cX10_lowest 8 (some .long) 4 := ⟨pq_t1 1 rfl rfl, pq_t3 187 rfl rfl, by decide +kernel, by decide +kernel, by decide +kernel⟩
set_option maxRecDepth 8000 in
theorem lb_X11_lowest : pq_LB yX11_lowest cX11_lowest 6 (some .long) 4 := ⟨pq_t1 12 rfl rfl, pq_t6 130 rfl rfl, by decide +kernel, by decide +kernel, by decide +kernel⟩
set_option maxRecDepth 8000 in
theorem lb_X10_share : pq_LB yX10_share cX10_share 6 (some .long) 4 := ⟨pq_t1 1 rfl rfl, pq_t3 200 rfl rfl, by decide +kernel, by decide +kernel, by decide +kernel⟩
set_option maxRecDepth 8000 in
theorem lb_X11_share : pq_LB yX11_share cX11_share 6 (some .long) 4 := ⟨pq_t1 12 rfl rfl, pq_t6 138 rfl rfl, by decide +kernel, by decide +kernel, by decide +kernel⟩
set_option maxRecDepth 8000 in
theorem lb_X10_proof : pq_LB yX10_proof cX10_proof 3 (some .int) 2 := ⟨pq_t1 1 rfl rfl, pq_t3 217 rfl rfl, by decide +kernel, by decide +kernel, by decide +kernel⟩
set_option maxRecDepth 8000 in
theorem lb_X11_proof : pq_LB yX11_proof cX11_proof 3 (some .int) 2 := ⟨pq_t1 12 rfl rfl, pq_t6 148 rfl rfl, by decide +kernel, by decide +kernel, by decide +kernel⟩
set_option maxRecDepth 8000 in
theorem lb_X10_walls : pq_LB yX10_walls cX10_walls 4 (some .long) 3 := ⟨pq_t1 1 rfl rfl, pq_t3 221 rfl rfl, by decide +kernel, by decide +kernel, by decide +kernel⟩
set_option maxRecDepth 8000 in
theorem lb_X11_walls : pq_LB yX11_walls cX11_walls 5 (some .long) 3 := ⟨pq_t1 12 rfl rfl, pq_t6 152 rfl rfl, by decide +kernel, by decide +kernel, by decide +kernel⟩
set_option maxRecDepth 8000 in
theorem lb_X10_wallsLeast : pq_LB yX10_wallsLeast cX10_wallsLeast 4 (some .int) 2 := ⟨pq_t1 1 rfl rfl, pq_t4 2 rfl rfl, by decide +kernel, by decide +kernel, by decide +kernel⟩
set_option maxRecDepth 8000 in
theorem lb_X11_wallsLeast : pq_LB yX11_wallsLeast cX11_wallsLeast 7 (some .int) 2 := ⟨pq_t1 12 rfl rfl, pq_t6 171 rfl rfl, by decide +kernel, by decide +kernel, by decide +kernel⟩
set_option maxRecDepth 8000 in
theorem lb_X10_made : pq_LB yX10_made cX10_made 5 (some .long) 4 := ⟨pq_t1 1 rfl rfl, pq_t4 15 rfl rfl, by decide +kernel, by decide +kernel, by decide +kernel⟩
set_option maxRecDepth 8000 in
theorem lb_X11_made : pq_LB yX11_made cX11_made 7 (some .long) 4 := ⟨pq_t1 12 rfl rfl, pq_t6 175 rfl rfl, by decide +kernel, by decide +kernel, by decide +kernel⟩
set_option maxRecDepth 8000 in
theorem lb_X10_sum : pq_LB yX10_sum cX10_sum 3 (some .int) 2 := ⟨pq_t1 1 rfl rfl, pq_t4 62 rfl rfl, by decide +kernel, by decide +kernel, by decide +kernel⟩
set_option maxRecDepth 8000 in
theorem lb_X11_sum : pq_LB yX11_sum cX11_sum 3 (some .int) 2 := ⟨pq_t1 12 rfl rfl, pq_t5 102 rfl rfl, by decide +kernel, by decide +kernel, by decide +kernel⟩
set_option maxRecDepth 8000 in
theorem lb_X10_product : pq_LB yX10_product cX10_product 3 (some .int) 2 := ⟨pq_t1 1 rfl rfl, pq_t4 67 rfl rfl, by decide +kernel, by decide +kernel, by decide +kernel⟩
set_option maxRecDepth 8000 in
theorem lb_X11_product : pq_LB yX11_product cX11_product 3 (some .int) 2 := ⟨pq_t1 12 rfl rfl, pq_t5 159 rfl rfl, by decide +kernel, by decide +kernel, by decide +kernel⟩
set_option maxRecDepth 8000 in
theorem lb_X10_lift : pq_LB yX10_lift cX10_lift 3 (some .int) 2 := ⟨pq_t1 1 rfl rfl, pq_t4 72 rfl rfl, by decide +kernel, by decide +kernel, by decide +kernel⟩
set_option maxRecDepth 8000 in
theorem lb_X11_lift : pq_LB yX11_lift cX11_lift 4 (some .int) 2 := ⟨pq_t1 12 rfl rfl, pq_t5 167 rfl rfl, by decide +kernel, by decide +kernel, by decide +kernel⟩
set_option maxRecDepth 8000 in
theorem lb_X10_negative : pq_LB yX10_negative cX10_negative 2 (some .int) 1 := ⟨pq_t1 1 rfl rfl, pq_t4 77 rfl rfl, by decide +kernel, by decide +kernel, by decide +kernel⟩
set_option maxRecDepth 8000 in
theorem lb_X11_negative : pq_LB yX11_negative cX11_negative 2 (some .int) 1 := ⟨pq_t1 12 rfl rfl, pq_t5 189 rfl rfl, by decide +kernel, by decide +kernel, by decide +kernel⟩
set_option maxRecDepth 8000 in
theorem lb_X10_on : pq_LB yX10_on cX10_on 3 (some .int) 2 := ⟨pq_t1 1 rfl rfl, pq_t4 82 rfl rfl, by decide +kernel, by decide +kernel, by decide +kernel⟩
set_option maxRecDepth 8000 in
theorem lb_X11_on : pq_LB yX11_on cX11_on 3 (some .int) 2 := ⟨pq_t1 12 rfl rfl, pq_t5 197 rfl rfl, by decide +kernel, by decide +kernel, by decide +kernel⟩
set_option maxRecDepth 8000 in
theorem lb_X10_spelled : pq_LB yX10_spelled cX10_spelled 3 (some .int) 2 := ⟨pq_t1 1 rfl rfl, pq_t4 87 rfl rfl, by decide +kernel, by decide +kernel, by decide +kernel⟩
set_option maxRecDepth 8000 in
theorem lb_X11_spelled : pq_LB yX11_spelled cX11_spelled 4 (some .int) 2 := ⟨pq_t1 12 rfl rfl, pq_t6 223 rfl rfl, by decide +kernel, by decide +kernel, by decide +kernel⟩
set_option maxRecDepth 8000 in
theorem lb_X10_lots : pq_LB yX10_lots cX10_lots 5 (some .int) 4 := ⟨pq_t1 1 rfl rfl, pq_t4 113 rfl rfl, by decide +kernel, by decide +kernel, by decide +kernel⟩
set_option maxRecDepth 8000 in
theorem lb_X11_lots : pq_LB yX11_lots cX11_lots 13 (some .int) 4 := ⟨pq_t1 12 rfl rfl, pq_t6 239 rfl rfl, by decide +kernel, by decide +kernel, by decide +kernel⟩
set_option maxRecDepth 8000 in
theorem lb_X10_list : pq_LB yX10_list cX10_list 3 (some .int) 2 := ⟨pq_t1 1 rfl rfl, pq_t4 129 rfl rfl, by decide +kernel, by decide +kernel, by decide +kernel⟩
set_option maxRecDepth 8000 in
theorem lb_X11_list : pq_LB yX11_list cX11_list 4 (some .int) 2 := ⟨pq_t1 12 rfl rfl, pq_t7 10 rfl rfl, by decide +kernel, by decide +kernel, by decide +kernel⟩
set_option maxRecDepth 8000 in
theorem lb_X10_put : pq_LB yX10_put cX10_put 4 (some .int) 3 := ⟨pq_t1 1 rfl rfl, pq_t4 137 rfl rfl, by decide +kernel, by decide +kernel, by decide +kernel⟩
set_option maxRecDepth 8000 in
theorem lb_X11_put : pq_LB yX11_put cX11_put 5 (some .int) 3 := ⟨pq_t1 12 rfl rfl, pq_t7 14 rfl rfl, by decide +kernel, by decide +kernel, by decide +kernel⟩
set_option maxRecDepth 8000 in
theorem lb_X10_look : pq_LB yX10_look cX10_look 3 (some .long) 2 := ⟨pq_t1 1 rfl rfl, pq_t4 141 rfl rfl, by decide +kernel, by decide +kernel, by decide +kernel⟩
set_option maxRecDepth 8000 in
theorem lb_X11_look : pq_LB yX11_look cX11_look 4 (some .long) 2 := ⟨pq_t1 12 rfl rfl, pq_t7 22 rfl rfl, by decide +kernel, by decide +kernel, by decide +kernel⟩
set_option maxRecDepth 8000 in
theorem lb_X10_lays : pq_LB yX10_lays cX10_lays 7 (some .int) 3 := ⟨pq_t1 1 rfl rfl, pq_t4 145 rfl rfl, by decide +kernel, by decide +kernel, by decide +kernel⟩
set_option maxRecDepth 8000 in
theorem lb_X11_lays : pq_LB yX11_lays cX11_lays 6 (some .int) 3 := ⟨pq_t1 12 rfl rfl, pq_t7 26 rfl rfl, by decide +kernel, by decide +kernel, by decide +kernel⟩
set_option maxRecDepth 8000 in
theorem lb_X10_judge : pq_LB yX10_judge cX10_judge 6 (some .int) 2 := ⟨pq_t1 1 rfl rfl, pq_t4 149 rfl rfl, by decide +kernel, by decide +kernel, by decide +kernel⟩
set_option maxRecDepth 8000 in
theorem lb_X11_judge : pq_LB yX11_judge cX11_judge 4 (some .int) 2 := ⟨pq_t1 12 rfl rfl, pq_t7 30 rfl rfl, by decide +kernel, by decide +kernel, by decide +kernel⟩
set_option maxRecDepth 8000 in
theorem lb_X10_undo : pq_LB yX10_undo cX10_undo 1 (some .int) 0 := ⟨pq_t1 1 rfl rfl, pq_t4 153 rfl rfl, by decide +kernel, by decide +kernel, by decide +kernel⟩
set_option maxRecDepth 8000 in
theorem lb_X11_undo : pq_LB yX11_undo cX11_undo 2 (some .int) 0 := ⟨pq_t1 12 rfl rfl, pq_t5 94 rfl rfl, by decide +kernel, by decide +kernel, by decide +kernel⟩
set_option maxRecDepth 8000 in
theorem lb_X10_image : pq_LB yX10_image cX10_image 1 (some .int) 0 := ⟨pq_t1 1 rfl rfl, pq_t4 162 rfl rfl, by decide +kernel, by decide +kernel, by decide +kernel⟩
set_option maxRecDepth 8000 in
theorem lb_X11_image : pq_LB yX11_image cX11_image 1 (some .int) 0 := ⟨pq_t1 12 rfl rfl, pq_t7 34 rfl rfl, by decide +kernel, by decide +kernel, by decide +kernel⟩
set_option maxRecDepth 8000 in
theorem lb_X10_back : pq_LB yX10_back cX10_back 1 (some .int) 0 := ⟨pq_t1 1 rfl rfl, pq_t4 174 rfl rfl, by decide +kernel, by decide +kernel, by decide +kernel⟩
set_option maxRecDepth 8000 in
theorem lb_X11_back : pq_LB yX11_back cX11_back 1 (some .int) 0 := ⟨pq_t1 12 rfl rfl, pq_t7 46 rfl rfl, by decide +kernel, by decide +kernel, by decide +kernel⟩
set_option maxRecDepth 8000 in
theorem lb_X10_count : pq_LB yX10_count cX10_count 2 (some .int) 1 := ⟨pq_t1 1 rfl rfl, pq_t4 182 rfl rfl, by decide +kernel, by decide +kernel, by decide +kernel⟩
set_option maxRecDepth 8000 in
theorem lb_X11_count : pq_LB yX11_count cX11_count 2 (some .int) 1 := ⟨pq_t1 12 rfl rfl, pq_t7 50 rfl rfl, by decide +kernel, by decide +kernel, by decide +kernel⟩
set_option maxRecDepth 8000 in
theorem lb_X11_no : pq_LB yX11_no cX11_no 2 (some .int) 1 := ⟨pq_t1 12 rfl rfl, pq_t5 98 rfl rfl, by decide +kernel, by decide +kernel, by decide +kernel⟩
set_option maxRecDepth 8000 in
theorem lb_X11_restOf : pq_LB yX11_restOf cX11_restOf 2 (some .int) 1 := ⟨pq_t1 12 rfl rfl, pq_t5 130 rfl rfl, by decide +kernel, by decide +kernel, by decide +kernel⟩
set_option maxRecDepth 8000 in
theorem lb_X11_powerIn : pq_LB yX11_powerIn cX11_powerIn 5 (some .int) 3 := ⟨pq_t1 12 rfl rfl, pq_t5 127 rfl rfl, by decide +kernel, by decide +kernel, by decide +kernel⟩
set_option maxRecDepth 8000 in
theorem lb_X11_isIn : pq_LB yX11_isIn cX11_isIn 3 (some .boolean) 3 := ⟨pq_t1 12 rfl rfl, pq_t5 109 rfl rfl, by decide +kernel, by decide +kernel, by decide +kernel⟩
set_option maxRecDepth 8000 in
theorem lb_X11_termsOf : pq_LB yX11_termsOf cX11_termsOf 1 (some .int) 1 := ⟨pq_t1 12 rfl rfl, pq_t5 120 rfl rfl, by decide +kernel, by decide +kernel, by decide +kernel⟩
set_option maxRecDepth 8000 in
theorem lb_X11_termOf : pq_LB yX11_termOf cX11_termOf 3 (some .int) 3 := ⟨pq_t1 12 rfl rfl, pq_t5 137 rfl rfl, by decide +kernel, by decide +kernel, by decide +kernel⟩
set_option maxRecDepth 8000 in
theorem lb_X11_toldAt : pq_LB yX11_toldAt cX11_toldAt 4 (some .int) 3 := ⟨pq_t1 12 rfl rfl, pq_t5 134 rfl rfl, by decide +kernel, by decide +kernel, by decide +kernel⟩
set_option maxRecDepth 8000 in
theorem lb_X11_isTerm : pq_LB yX11_isTerm cX11_isTerm 3 (some .boolean) 2 := ⟨pq_t1 12 rfl rfl, pq_t5 117 rfl rfl, by decide +kernel, by decide +kernel, by decide +kernel⟩
set_option maxRecDepth 8000 in
theorem lb_X11_coefficientOf : pq_LB yX11_coefficientOf cX11_coefficientOf 7 (some .int) 2 := ⟨pq_t1 12 rfl rfl, pq_t5 124 rfl rfl, by decide +kernel, by decide +kernel, by decide +kernel⟩
set_option maxRecDepth 8000 in
theorem lb_X11_canCome : pq_LB yX11_canCome cX11_canCome 4 (some .boolean) 1 := ⟨pq_t1 12 rfl rfl, pq_t5 145 rfl rfl, by decide +kernel, by decide +kernel, by decide +kernel⟩
set_option maxRecDepth 8000 in
theorem lb_X11_comes : pq_LB yX11_comes cX11_comes 3 (some .int) 1 := ⟨pq_t1 12 rfl rfl, pq_t5 151 rfl rfl, by decide +kernel, by decide +kernel, by decide +kernel⟩
set_option maxRecDepth 8000 in
theorem lb_X11_comesIf : pq_LB yX11_comesIf cX11_comesIf 2 (some .int) 1 := ⟨pq_t1 12 rfl rfl, pq_t5 141 rfl rfl, by decide +kernel, by decide +kernel, by decide +kernel⟩
set_option maxRecDepth 8000 in
theorem lb_X11_takes : pq_LB yX11_takes cX11_takes 5 none 3 := ⟨pq_t1 12 rfl rfl, pq_t5 178 rfl rfl, by decide +kernel, by decide +kernel, by decide +kernel⟩
set_option maxRecDepth 8000 in
theorem lb_X11_isOn : pq_LB yX11_isOn cX11_isOn 5 (some .boolean) 3 := ⟨pq_t1 12 rfl rfl, pq_t5 181 rfl rfl, by decide +kernel, by decide +kernel, by decide +kernel⟩
set_option maxRecDepth 8000 in
theorem lb_X11_isForm : pq_LB yX11_isForm cX11_isForm 2 (some .boolean) 1 := ⟨pq_t1 12 rfl rfl, pq_t5 106 rfl rfl, by decide +kernel, by decide +kernel, by decide +kernel⟩
set_option maxRecDepth 8000 in
theorem lb_X11_sums : pq_LB yX11_sums cX11_sums 4 (some .int) 2 := ⟨pq_t1 12 rfl rfl, pq_t5 113 rfl rfl, by decide +kernel, by decide +kernel, by decide +kernel⟩
set_option maxRecDepth 8000 in
theorem lb_X11_told : pq_LB yX11_told cX11_told 2 (some .int) 1 := ⟨pq_t1 12 rfl rfl, pq_t5 155 rfl rfl, by decide +kernel, by decide +kernel, by decide +kernel⟩
set_option maxRecDepth 8000 in
theorem lb_X11_multiplies : pq_LB yX11_multiplies cX11_multiplies 6 (some .int) 2 := ⟨pq_t1 12 rfl rfl, pq_t5 163 rfl rfl, by decide +kernel, by decide +kernel, by decide +kernel⟩
set_option maxRecDepth 8000 in
theorem lb_X11_bound : pq_LB yX11_bound cX11_bound 3 (some .int) 3 := ⟨pq_t1 12 rfl rfl, pq_t5 170 rfl rfl, by decide +kernel, by decide +kernel, by decide +kernel⟩
set_option maxRecDepth 8000 in
theorem lb_X11_lifts : pq_LB yX11_lifts cX11_lifts 5 (some .int) 2 := ⟨pq_t1 12 rfl rfl, pq_t5 174 rfl rfl, by decide +kernel, by decide +kernel, by decide +kernel⟩
set_option maxRecDepth 8000 in
theorem lb_X11_turnsBelow : pq_LB yX11_turnsBelow cX11_turnsBelow 3 (some .int) 1 := ⟨pq_t1 12 rfl rfl, pq_t5 193 rfl rfl, by decide +kernel, by decide +kernel, by decide +kernel⟩
set_option maxRecDepth 8000 in
theorem lb_X11_isSide : pq_LB yX11_isSide cX11_isSide 1 (some .boolean) 1 := ⟨pq_t1 12 rfl rfl, pq_t5 200 rfl rfl, by decide +kernel, by decide +kernel, by decide +kernel⟩
set_option maxRecDepth 8000 in
theorem lb_X11_staysOn : pq_LB yX11_staysOn cX11_staysOn 4 (some .int) 2 := ⟨pq_t1 12 rfl rfl, pq_t5 204 rfl rfl, by decide +kernel, by decide +kernel, by decide +kernel⟩
set_option maxRecDepth 8000 in
theorem lb_X11_next : pq_LB yX11_next cX11_next 1 (some .int) 0 := ⟨pq_t1 12 rfl rfl, pq_t5 220 rfl rfl, by decide +kernel, by decide +kernel, by decide +kernel⟩
set_option maxRecDepth 8000 in
theorem lb_X11_isDigit : pq_LB yX11_isDigit cX11_isDigit 1 (some .boolean) 0 := ⟨pq_t1 12 rfl rfl, pq_t5 228 rfl rfl, by decide +kernel, by decide +kernel, by decide +kernel⟩
set_option maxRecDepth 8000 in
theorem lb_X11_readsPower : pq_LB yX11_readsPower cX11_readsPower 3 (some .boolean) 2 := ⟨pq_t1 12 rfl rfl, pq_t5 232 rfl rfl, by decide +kernel, by decide +kernel, by decide +kernel⟩
set_option maxRecDepth 8000 in
theorem lb_X11_readsMember : pq_LB yX11_readsMember cX11_readsMember 7 (some .int) 2 := ⟨pq_t1 12 rfl rfl, pq_t5 224 rfl rfl, by decide +kernel, by decide +kernel, by decide +kernel⟩
set_option maxRecDepth 8000 in
theorem lb_X11_readsForm : pq_LB yX11_readsForm cX11_readsForm 4 (some .int) 0 := ⟨pq_t1 12 rfl rfl, pq_t5 216 rfl rfl, by decide +kernel, by decide +kernel, by decide +kernel⟩
set_option maxRecDepth 8000 in
theorem lb_X11_isWord : pq_LB yX11_isWord cX11_isWord 8 (some .boolean) 6 := ⟨pq_t1 12 rfl rfl, pq_t6 12 rfl rfl, by decide +kernel, by decide +kernel, by decide +kernel⟩
set_option maxRecDepth 8000 in
theorem lb_X11_readsWord : pq_LB yX11_readsWord cX11_readsWord 2 (some .int) 0 := ⟨pq_t1 12 rfl rfl, pq_t6 8 rfl rfl, by decide +kernel, by decide +kernel, by decide +kernel⟩
set_option maxRecDepth 8000 in
theorem lb_X11_readsNumber : pq_LB yX11_readsNumber cX11_readsNumber 1 (some .int) 0 := ⟨pq_t1 12 rfl rfl, pq_t6 16 rfl rfl, by decide +kernel, by decide +kernel, by decide +kernel⟩
set_option maxRecDepth 8000 in
theorem lb_X11_readsAct : pq_LB yX11_readsAct cX11_readsAct 5 (some .boolean) 0 := ⟨pq_t1 12 rfl rfl, pq_t6 4 rfl rfl, by decide +kernel, by decide +kernel, by decide +kernel⟩
set_option maxRecDepth 8000 in
theorem lb_X11_readsActs : pq_LB yX11_readsActs cX11_readsActs 2 (some .boolean) 0 := ⟨pq_t1 12 rfl rfl, pq_t6 0 rfl rfl, by decide +kernel, by decide +kernel, by decide +kernel⟩
set_option maxRecDepth 8000 in
theorem lb_X11_does : pq_LB yX11_does cX11_does 4 (some .int) 1 := ⟨pq_t1 12 rfl rfl, pq_t6 20 rfl rfl, by decide +kernel, by decide +kernel, by decide +kernel⟩
set_option maxRecDepth 8000 in
theorem lb_X11_far : pq_LB yX11_far cX11_far 2 (some .int) 1 := ⟨pq_t1 12 rfl rfl, pq_t6 34 rfl rfl, by decide +kernel, by decide +kernel, by decide +kernel⟩
set_option maxRecDepth 8000 in
theorem lb_X11_notes : pq_LB yX11_notes cX11_notes 4 none 2 := ⟨pq_t1 12 rfl rfl, pq_t6 39 rfl rfl, by decide +kernel, by decide +kernel, by decide +kernel⟩
set_option maxRecDepth 8000 in
theorem lb_X11_many : pq_LB yX11_many cX11_many 5 (some .int) 2 := ⟨pq_t1 12 rfl rfl, pq_t6 51 rfl rfl, by decide +kernel, by decide +kernel, by decide +kernel⟩
set_option maxRecDepth 8000 in
theorem lb_X11_power : pq_LB yX11_power cX11_power 5 (some .long) 2 := ⟨pq_t1 12 rfl rfl, pq_t6 75 rfl rfl, by decide +kernel, by decide +kernel, by decide +kernel⟩
set_option maxRecDepth 8000 in
theorem lb_X11_lower : pq_LB yX11_lower cX11_lower 2 (some .long) 1 := ⟨pq_t1 12 rfl rfl, pq_t6 67 rfl rfl, by decide +kernel, by decide +kernel, by decide +kernel⟩
set_option maxRecDepth 8000 in
theorem lb_X11_valueAt : pq_LB yX11_valueAt cX11_valueAt 9 (some .long) 4 := ⟨pq_t1 12 rfl rfl, pq_t6 72 rfl rfl, by decide +kernel, by decide +kernel, by decide +kernel⟩
set_option maxRecDepth 8000 in
theorem lb_X11_rises : pq_LB yX11_rises cX11_rises 5 none 1 := ⟨pq_t1 12 rfl rfl, pq_t5 185 rfl rfl, by decide +kernel, by decide +kernel, by decide +kernel⟩
set_option maxRecDepth 8000 in
theorem lb_X11_notSide : pq_LB yX11_notSide cX11_notSide 3 (some .int) 2 := ⟨pq_t1 12 rfl rfl, pq_t6 83 rfl rfl, by decide +kernel, by decide +kernel, by decide +kernel⟩
set_option maxRecDepth 8000 in
theorem lb_X11_isSort : pq_LB yX11_isSort cX11_isSort 1 (some .boolean) 1 := ⟨pq_t1 12 rfl rfl, pq_t6 90 rfl rfl, by decide +kernel, by decide +kernel, by decide +kernel⟩
set_option maxRecDepth 8000 in
theorem lb_X11_firstFault : pq_LB yX11_firstFault cX11_firstFault 5 (some .int) 2 := ⟨pq_t1 12 rfl rfl, pq_t6 94 rfl rfl, by decide +kernel, by decide +kernel, by decide +kernel⟩
set_option maxRecDepth 8000 in
theorem lb_X11_leastOf : pq_LB yX11_leastOf cX11_leastOf 5 (some .int) 3 := ⟨pq_t1 12 rfl rfl, pq_t6 102 rfl rfl, by decide +kernel, by decide +kernel, by decide +kernel⟩
set_option maxRecDepth 8000 in
theorem lb_X11_firstPoint : pq_LB yX11_firstPoint cX11_firstPoint 2 none 1 := ⟨pq_t1 12 rfl rfl, pq_t6 118 rfl rfl, by decide +kernel, by decide +kernel, by decide +kernel⟩
set_option maxRecDepth 8000 in
theorem lb_X11_isPointOn : pq_LB yX11_isPointOn cX11_isPointOn 2 (some .boolean) 1 := ⟨pq_t1 12 rfl rfl, pq_t6 122 rfl rfl, by decide +kernel, by decide +kernel, by decide +kernel⟩
set_option maxRecDepth 8000 in
theorem lb_X11_nextPoint : pq_LB yX11_nextPoint cX11_nextPoint 2 (some .boolean) 1 := ⟨pq_t1 12 rfl rfl, pq_t6 126 rfl rfl, by decide +kernel, by decide +kernel, by decide +kernel⟩
set_option maxRecDepth 8000 in
theorem lb_X11_looks : pq_LB yX11_looks cX11_looks 8 (some .int) 4 := ⟨pq_t1 12 rfl rfl, pq_t6 114 rfl rfl, by decide +kernel, by decide +kernel, by decide +kernel⟩
set_option maxRecDepth 8000 in
theorem lb_X11_failsAt : pq_LB yX11_failsAt cX11_failsAt 7 (some .int) 4 := ⟨pq_t1 12 rfl rfl, pq_t6 110 rfl rfl, by decide +kernel, by decide +kernel, by decide +kernel⟩
set_option maxRecDepth 8000 in
theorem lb_X11_notLooked : pq_LB yX11_notLooked cX11_notLooked 6 (some .int) 4 := ⟨pq_t1 12 rfl rfl, pq_t6 134 rfl rfl, by decide +kernel, by decide +kernel, by decide +kernel⟩
set_option maxRecDepth 8000 in
theorem lb_X11_divisor : pq_LB yX11_divisor cX11_divisor 10 (some .long) 2 := ⟨pq_t1 12 rfl rfl, pq_t6 144 rfl rfl, by decide +kernel, by decide +kernel, by decide +kernel⟩
set_option maxRecDepth 8000 in
theorem lb_X11_partOf : pq_LB yX11_partOf cX11_partOf 7 (some .long) 3 := ⟨pq_t1 12 rfl rfl, pq_t6 141 rfl rfl, by decide +kernel, by decide +kernel, by decide +kernel⟩
set_option maxRecDepth 8000 in
theorem lb_X11_ways : pq_LB yX11_ways cX11_ways 5 (some .long) 2 := ⟨pq_t1 12 rfl rfl, pq_t6 167 rfl rfl, by decide +kernel, by decide +kernel, by decide +kernel⟩
set_option maxRecDepth 8000 in
theorem lb_X11_isList : pq_LB yX11_isList cX11_isList 1 (some .boolean) 1 := ⟨pq_t1 12 rfl rfl, pq_t6 155 rfl rfl, by decide +kernel, by decide +kernel, by decide +kernel⟩
set_option maxRecDepth 8000 in
theorem lb_X11_isTold : pq_LB yX11_isTold cX11_isTold 4 (some .boolean) 1 := ⟨pq_t1 12 rfl rfl, pq_t6 160 rfl rfl, by decide +kernel, by decide +kernel, by decide +kernel⟩
set_option maxRecDepth 8000 in
theorem lb_X11_wallOf : pq_LB yX11_wallOf cX11_wallOf 7 (some .long) 3 := ⟨pq_t1 12 rfl rfl, pq_t6 164 rfl rfl, by decide +kernel, by decide +kernel, by decide +kernel⟩
set_option maxRecDepth 8000 in
theorem lb_X11_at : pq_LB yX11_at cX11_at 3 (some .long) 2 := ⟨pq_t1 12 rfl rfl, pq_t6 207 rfl rfl, by decide +kernel, by decide +kernel, by decide +kernel⟩
set_option maxRecDepth 8000 in
theorem lb_X11_two : pq_LB yX11_two cX11_two 5 (some .long) 4 := ⟨pq_t1 12 rfl rfl, pq_t6 211 rfl rfl, by decide +kernel, by decide +kernel, by decide +kernel⟩
set_option maxRecDepth 8000 in
theorem lb_X11_minor : pq_LB yX11_minor cX11_minor 5 (some .long) 4 := ⟨pq_t1 12 rfl rfl, pq_t6 203 rfl rfl, by decide +kernel, by decide +kernel, by decide +kernel⟩
set_option maxRecDepth 8000 in
theorem lb_X11_findsRows : pq_LB yX11_findsRows cX11_findsRows 5 (some .boolean) 4 := ⟨pq_t1 12 rfl rfl, pq_t6 199 rfl rfl, by decide +kernel, by decide +kernel, by decide +kernel⟩
set_option maxRecDepth 8000 in
theorem lb_X11_laysColumn : pq_LB yX11_laysColumn cX11_laysColumn 4 none 2 := ⟨pq_t1 12 rfl rfl, pq_t6 191 rfl rfl, by decide +kernel, by decide +kernel, by decide +kernel⟩
set_option maxRecDepth 8000 in
theorem lb_X11_isNew : pq_LB yX11_isNew cX11_isNew 1 (some .boolean) 0 := ⟨pq_t1 12 rfl rfl, pq_t6 195 rfl rfl, by decide +kernel, by decide +kernel, by decide +kernel⟩
set_option maxRecDepth 8000 in
theorem lb_X11_upOf : pq_LB yX11_upOf cX11_upOf 2 (some .long) 1 := ⟨pq_t1 12 rfl rfl, pq_t6 219 rfl rfl, by decide +kernel, by decide +kernel, by decide +kernel⟩
set_option maxRecDepth 8000 in
theorem lb_X11_isSmall : pq_LB yX11_isSmall cX11_isSmall 4 (some .boolean) 1 := ⟨pq_t1 12 rfl rfl, pq_t6 183 rfl rfl, by decide +kernel, by decide +kernel, by decide +kernel⟩
set_option maxRecDepth 8000 in
theorem lb_X11_isSetOf : pq_LB yX11_isSetOf cX11_isSetOf 6 (some .boolean) 2 := ⟨pq_t1 12 rfl rfl, pq_t6 179 rfl rfl, by decide +kernel, by decide +kernel, by decide +kernel⟩
set_option maxRecDepth 8000 in
theorem lb_X11_fillsColumns : pq_LB yX11_fillsColumns cX11_fillsColumns 3 none 1 := ⟨pq_t1 12 rfl rfl, pq_t6 187 rfl rfl, by decide +kernel, by decide +kernel, by decide +kernel⟩
set_option maxRecDepth 8000 in
theorem lb_X11_isMade : pq_LB yX11_isMade cX11_isMade 8 (some .boolean) 0 := ⟨pq_t1 12 rfl rfl, pq_t6 215 rfl rfl, by decide +kernel, by decide +kernel, by decide +kernel⟩
set_option maxRecDepth 8000 in
theorem lb_X11_puts : pq_LB yX11_puts cX11_puts 2 none 1 := ⟨pq_t1 12 rfl rfl, pq_t6 231 rfl rfl, by decide +kernel, by decide +kernel, by decide +kernel⟩
set_option maxRecDepth 8000 in
theorem lb_X11_putsNumber : pq_LB yX11_putsNumber cX11_putsNumber 3 none 1 := ⟨pq_t1 12 rfl rfl, pq_t6 235 rfl rfl, by decide +kernel, by decide +kernel, by decide +kernel⟩
set_option maxRecDepth 8000 in
theorem lb_X11_spells : pq_LB yX11_spells cX11_spells 7 none 1 := ⟨pq_t1 12 rfl rfl, pq_t6 227 rfl rfl, by decide +kernel, by decide +kernel, by decide +kernel⟩
set_option maxRecDepth 8000 in
theorem lb_X11_draw : pq_LB yX11_draw cX11_draw 2 (some .int) 1 := ⟨pq_t1 12 rfl rfl, pq_t7 3 rfl rfl, by decide +kernel, by decide +kernel, by decide +kernel⟩
set_option maxRecDepth 8000 in
theorem lb_X11_notPlace : pq_LB yX11_notPlace cX11_notPlace 3 (some .int) 2 := ⟨pq_t1 12 rfl rfl, pq_t7 18 rfl rfl, by decide +kernel, by decide +kernel, by decide +kernel⟩
set_option maxRecDepth 8000 in
theorem lb_X11_passOne : pq_LB yX11_passOne cX11_passOne 3 (some .int) 1 := ⟨pq_t1 12 rfl rfl, pq_t7 42 rfl rfl, by decide +kernel, by decide +kernel, by decide +kernel⟩
set_option maxRecDepth 8000 in
theorem lb_X11_passesAll : pq_LB yX11_passesAll cX11_passesAll 3 none 1 := ⟨pq_t1 12 rfl rfl, pq_t7 38 rfl rfl, by decide +kernel, by decide +kernel, by decide +kernel⟩
set_option maxRecDepth 8000 in
theorem lb_X11_allTerms : pq_LB yX11_allTerms cX11_allTerms 3 (some .int) 0 := ⟨pq_t1 12 rfl rfl, pq_t7 54 rfl rfl, by decide +kernel, by decide +kernel, by decide +kernel⟩
set_option maxRecDepth 8000 in
theorem lb_X11_clearOnes : pq_LB yX11_clearOnes cX11_clearOnes 3 (some .int) 0 := ⟨pq_t1 12 rfl rfl, pq_t7 58 rfl rfl, by decide +kernel, by decide +kernel, by decide +kernel⟩
set_option maxRecDepth 8000 in
theorem lk_X8_31 : Cond.methodLink RX8 31 Lib.Math.min.name ∈ pq_G ∧ Cond.static Lib.Math.min.name ∈ pq_G ∧ Cond.initialized "java/lang/Math" ∈ pq_G ∧ Cond.code Lib.Math.min.name Lib.Math.min.code 2 (some .int) ∈ pq_G := ⟨pq_t3 84 rfl rfl, pq_t3 85 rfl rfl, pq_t1 18 rfl rfl, pq_t3 86 rfl rfl⟩
set_option maxRecDepth 8000 in
theorem lk_X10_222 : Cond.methodLink RX10 222 Lib.Math.max.name ∈ pq_G ∧ Cond.static Lib.Math.max.name ∈ pq_G ∧ Cond.initialized "java/lang/Math" ∈ pq_G ∧ Cond.code Lib.Math.max.name Lib.Math.max.code 2 (some .int) ∈ pq_G := ⟨pq_t4 3 rfl rfl, pq_t4 4 rfl rfl, pq_t1 18 rfl rfl, pq_t4 5 rfl rfl⟩
set_option maxRecDepth 8000 in
theorem lk_X6_66 : Cond.methodLink RX6 66 Lib.Math.abs.name ∈ pq_G ∧ Cond.static Lib.Math.abs.name ∈ pq_G ∧ Cond.initialized "java/lang/Math" ∈ pq_G ∧ Cond.code Lib.Math.abs.name Lib.Math.abs.code 1 (some .int) ∈ pq_G := ⟨pq_t4 28 rfl rfl, pq_t4 29 rfl rfl, pq_t1 18 rfl rfl, pq_t4 30 rfl rfl⟩
set_option maxRecDepth 8000 in
theorem lk_X7_38 : Cond.methodLink RX7 38 Lib.Math.abs.name ∈ pq_G ∧ Cond.static Lib.Math.abs.name ∈ pq_G ∧ Cond.initialized "java/lang/Math" ∈ pq_G ∧ Cond.code Lib.Math.abs.name Lib.Math.abs.code 1 (some .int) ∈ pq_G := ⟨pq_t4 101 rfl rfl, pq_t4 29 rfl rfl, pq_t1 18 rfl rfl, pq_t4 30 rfl rfl⟩
set_option maxRecDepth 8000 in
theorem lk_X10_321 : Cond.methodLink RX10 321 Lib.MathLoose.abs_long.x ∈ pq_G ∧ Cond.static Lib.MathLoose.abs_long.x ∈ pq_G ∧ Cond.initialized "java/lang/Math" ∈ pq_G ∧ Cond.code Lib.MathLoose.abs_long.x Lib.MathLoose.abs_long.code 2 (some .long) ∈ pq_G := ⟨pq_t3 208 rfl rfl, pq_t3 209 rfl rfl, pq_t1 18 rfl rfl, pq_t3 210 rfl rfl⟩
set_option maxRecDepth 8000 in
theorem k_J6_265 : Cond.constant RJ6 265 1431655765 ∈ pq_G := pq_t2 233 rfl rfl
set_option maxRecDepth 8000 in
theorem k_J6_266 : Cond.constant RJ6 266 858993459 ∈ pq_G := pq_t2 234 rfl rfl
set_option maxRecDepth 8000 in
theorem k_J6_267 : Cond.constant RJ6 267 252645135 ∈ pq_G := pq_t2 235 rfl rfl
set_option maxRecDepth 8000 in
theorem k_X6_149 : Cond.constantLong RX6 149 (-1000000) ∈ pq_G := pq_t3 20 rfl rfl
set_option maxRecDepth 8000 in
theorem k_X6_151 : Cond.constantLong RX6 151 1000000 ∈ pq_G := pq_t3 21 rfl rfl
set_option maxRecDepth 8000 in
theorem k_X10_300 : Cond.constant RX10 300 1000000000 ∈ pq_G := pq_t3 77 rfl rfl
set_option maxRecDepth 8000 in
theorem k_X10_118 : Cond.constant RX10 118 (-1000000) ∈ pq_G := pq_t3 78 rfl rfl
set_option maxRecDepth 8000 in
theorem k_X10_119 : Cond.constant RX10 119 1000000 ∈ pq_G := pq_t3 79 rfl rfl
set_option maxRecDepth 8000 in
theorem k_X10_301 : Cond.constantLong RX10 301 4000000000000000000 ∈ pq_G := pq_t3 123 rfl rfl
set_option maxRecDepth 8000 in
theorem k_X4_20 : Cond.constant RX4 20 (-1000000) ∈ pq_G := pq_t3 230 rfl rfl
set_option maxRecDepth 8000 in
theorem k_X4_21 : Cond.constant RX4 21 1000000 ∈ pq_G := pq_t3 231 rfl rfl
set_option maxRecDepth 8000 in
theorem k_X10_335 : Cond.constant RX10 335 1664525 ∈ pq_G := pq_t4 120 rfl rfl
set_option maxRecDepth 8000 in
theorem k_X10_336 : Cond.constant RX10 336 1013904223 ∈ pq_G := pq_t4 121 rfl rfl
set_option maxRecDepth 8000 in
theorem k_X10_337 : Cond.constant RX10 337 2147483647 ∈ pq_G := pq_t4 125 rfl rfl
set_option maxRecDepth 8000 in
theorem k_X11_122 : Cond.constantLong RX11 122 (-1000000) ∈ pq_G := pq_t5 146 rfl rfl
set_option maxRecDepth 8000 in
theorem k_X11_124 : Cond.constantLong RX11 124 1000000 ∈ pq_G := pq_t5 147 rfl rfl
set_option maxRecDepth 8000 in
theorem k_X11_215 : Cond.constant RX11 215 (-1000000) ∈ pq_G := pq_t6 29 rfl rfl
set_option maxRecDepth 8000 in
theorem k_X11_216 : Cond.constant RX11 216 1000000 ∈ pq_G := pq_t6 30 rfl rfl
set_option maxRecDepth 8000 in
theorem k_X11_7 : Cond.constant RX11 7 1000000000 ∈ pq_G := pq_t6 35 rfl rfl
set_option maxRecDepth 8000 in
theorem k_X11_12 : Cond.constantLong RX11 12 4000000000000000000 ∈ pq_G := pq_t6 68 rfl rfl
set_option maxRecDepth 8000 in
theorem k_X11_313 : Cond.constantLong RX11 313 4000000000000000011 ∈ pq_G := pq_t6 156 rfl rfl
set_option maxRecDepth 8000 in
theorem k_X11_382 : Cond.constant RX11 382 1664525 ∈ pq_G := pq_t7 4 rfl rfl
set_option maxRecDepth 8000 in
theorem k_X11_383 : Cond.constant RX11 383 1013904223 ∈ pq_G := pq_t7 5 rfl rfl
set_option maxRecDepth 8000 in
theorem k_X11_384 : Cond.constant RX11 384 2147483647 ∈ pq_G := pq_t7 6 rfl rfl
end
section
section ENV
variable {X : pq_X} {g : pq_g} {α : Type} {res : α} {nL pc : Nat} {L : List (Nat × Value)} {st : List Value} {h : pq_H} {F : Option α} {b : ByteArray} {own : String}
set_option maxRecDepth 8000 in
theorem k_kind : Cond.fieldLink RX10 313 "FormsAboveNought" "KIND_ABOVE" "[I" ∈ pq_G := pq_t3 108 rfl rfl
theorem v_gets (hB : pq_B X b nL RX10) (hK : pq_K X (SC g)) (d : decode b pc = .ok (.getstatic 313, 3)) (kk : V X (SC g) res nL (pc + 3) L (.ref g.2.2.2.1 :: st) h F) : V X (SC g) res nL pc L st h F := fun e ls H locs hl hP hS => by
  have hS1 := hS
  rw [hK.2.2.1] at hS1
  exact va_gets hB.1 hB.2.1 (envC_kind hK.2.2.2.1) hS1 hB.2.2.2.1 (hB.2.2.2.2 _ k_kind) (fun _ z => z) d (kk e ls H locs hl hP hS)
theorem v_kA (hB : pq_B X b nL own) (hK : pq_K X (SC g)) {i : Int32} (d : decode b pc = .ok (.iaload, 1)) (kk : V X (SC g) res nL (pc + 1) L (.int (kA i.toNatClampNeg) :: st) h F) : V X (SC g) res nL pc L (.int i :: .ref g.2.2.2.1 :: st) h (gd (inb i 6) F) := fun e ls H locs hl hP hS => by
  obtain ⟨c1, c2⟩ := gd_some e
  have hS1 := hS
  rw [hK.2.2.1] at hS1
  exact va_ti hB.1 hB.2.1 (envC_row hK.2.2.2.1) hS1 (inb_in c1) (v := .int (kA i.toNatClampNeg)) rfl d (kk c2 ls H locs hl hP hS)
theorem pq_updq (r : Nat → Option Nat) (ad : Nat → Nat) (k q : Nat) : updV (fun j => va_rf ((r j).map ad)) k (.ref (ad q)) = fun j => va_rf ((va_up r k (some q) j).map ad) := funext fun t => by
  by_cases ht : t = k
  · subst ht
    simp [updV, va_up, va_rf]
  · simp [updV, va_up, ht]
theorem aR72_eq (g : pq_g) (i : Nat → Int32) (j : Nat → Int64) (r : Nat → Option Nat) : (SC g).1.2.2 72 i j r = .inl (g.2.2.1 4, 28, .inr (.inr (.inr (.inr (fun t => (r t).map g.1))))) := rfl
theorem v_ast72 (hB : pq_B X b nL own) (hK : pq_K X (SC g)) {i : Int32} {q : Nat} (q1 : 24 ≤ q) (q2 : q < 52) (d : decode b pc = .ok (.aastore, 1)) (kk : V X (SC g) res nL (pc + 1) L st (wR h 72 i.toNatClampNeg (some q)) F) : V X (SC g) res nL pc L (.ref ((SC g).1.2.1 q) :: .int i :: .ref ((SC g).1.2.1 72) :: st) h (gd (inb i 28) F) := fun e ls H locs hl hP hS => by
  obtain ⟨c1, c2⟩ := gd_some e
  have hin := inb_in c1
  have hlt := inb_lt c1
  have h0 : ¬ i < 0 := fun z => hin (Or.inl z)
  have ha : (pq_W (SC g) h)[72]? = some ((SC g).1.2.1 72, .inl (g.2.2.1 4, 28, .inr (.inr (.inr (.inr (fun t => ((h.2.2 72) t).map g.1)))))) := pq_get (show 72 < 83 by decide) (aR72_eq g _ _ _)
  have hv : (pq_W (SC g) h)[q]? = some ((SC g).1.2.1 q, .inl (g.2.2.1 1, 4, .inr (.inl (h.2.1 q)))) := pq_get (show q < 83 by omega) (cC_mrow g q1 q2 _ _ _)
  have hcA : H[(SC g).1.2.1 72]? = some (vp_cell (g.2.2.1 4) (28, .inr (.inr (.inr (.inr (fun t => ((h.2.2 72) t).map g.1)))))) := hP 72 _ ha
  have hcV : H[(SC g).1.2.1 q]? = some (vp_cell (g.2.2.1 1) (4, .inr (.inl (h.2.1 q)))) := hP q _ hv
  have hsz : (vp_cell (g.2.2.1 4) (28, .inr (.inr (.inr (.inr (fun t => ((h.2.2 72) t).map g.1)))))).slots.size = 28 := by rw [vp_cell_q, arrV_size]
  obtain ⟨kA, kv, k1, k2, k3⟩ := envC_jj hK.2.2.2.1
  refine W.aast hB.1 hB.2.1 hcA (fun q z => by cases z) (fun z => by cases z) k1 k2 rfl k3 ⟨h0, by rw [hsz]; exact hlt⟩ hcV (fun q z => by cases z) k3 (va_asg _ _) rfl rfl d fun H1 e1 z oq => ?_
  refine kk c2 ls H1 _ hl ?_ (hS.put z oq ((hK.2.1 h).2 72 _ ha))
  have e2 : va_P (SC g).2.1.1 (SC g).2.1.2.1 ((pq_W (SC g) h).set 72 ((SC g).1.2.1 72, .inl (g.2.2.1 4, 28, .inr (.inr (.inr (.inr (fun t => ((va_up (h.2.2 72) i.toNatClampNeg (some q)) t).map g.1))))))) H1 := by
    refine hP.set (hK.2.1 h) ha ?_ oq
    show H1[_]? = some (vp_cell _ _)
    rw [e1, vp_cell_q, vp_cell_q, arrV_store]
    exact congrArg some (congrArg (arrV (g.2.2.1 4) 28) (pq_updq (h.2.2 72) g.1 i.toNatClampNeg q))
  rw [pq_setR (S := SC g) (p := 72) (E := fun i j r => .inl (g.2.2.1 4, 28, .inr (.inr (.inr (.inr (fun t => (r t).map g.1)))))) (show 72 < 83 by decide) (fun i j r => aR72_eq g i j r)] at e2
  exact e2
end ENV
def f_X0_textOf (p0 : Int32) : Nat := if p0 = 0 then 0 else if p0 = 1 then 1 else if p0 = 2 then 2 else if p0 = 3 then 3 else 4
theorem lt_textOf (p0 : Int32) : f_X0_textOf p0 < 5 := by
  unfold f_X0_textOf
  split <;> (try split) <;> (try split) <;> (try split) <;> decide
set_option maxRecDepth 8000 in
theorem ls_X0_53 : Cond.methodLink RX0 53 yJ0_length_8abf5 ∈ pq_G := pq_t2 140 rfl rfl
set_option maxRecDepth 8000 in
theorem ls_X3_27 : Cond.methodLink RX3 27 yJ0_length_8abf5 ∈ pq_G := pq_t2 154 rfl rfl
set_option maxRecDepth 8000 in
theorem ls_X3_33 : Cond.methodLink RX3 33 yJ0_charAt_5068e ∈ pq_G := pq_t2 155 rfl rfl
end
section
set_option maxRecDepth 8000 in
theorem lb_J0_length_8abf5 : pq_LB yJ0_length_8abf5 cJ0_length_8abf5 1 (some .int) 0 := ⟨pq_t1 13 rfl rfl, pq_t2 143 rfl rfl, by decide +kernel, by decide +kernel, by decide +kernel⟩
theorem dJ0_length_8abf5_0 : decode cJ0_length_8abf5 0 = .ok (.aload_n 0, 1) := by decide +kernel
theorem dJ0_length_8abf5_1 : decode cJ0_length_8abf5 1 = .ok (.getfield 9, 3) := by decide +kernel
theorem dJ0_length_8abf5_4 : decode cJ0_length_8abf5 4 = .ok (.arraylength, 1) := by decide +kernel
theorem dJ0_length_8abf5_5 : decode cJ0_length_8abf5 5 = .ok (.aload_n 0, 1) := by decide +kernel
theorem dJ0_length_8abf5_6 : decode cJ0_length_8abf5 6 = .ok (.invokevirtual 335, 3) := by decide +kernel
theorem dJ0_length_8abf5_9 : decode cJ0_length_8abf5 9 = .ok (.ishr, 1) := by decide +kernel
theorem dJ0_length_8abf5_10 : decode cJ0_length_8abf5 10 = .ok (.ireturn, 1) := by decide +kernel
set_option maxRecDepth 8000 in
theorem lb_J0_charAt_5068e : pq_LB yJ0_charAt_5068e cJ0_charAt_5068e 2 (some .char) 1 := ⟨pq_t1 13 rfl rfl, pq_t2 158 rfl rfl, by decide +kernel, by decide +kernel, by decide +kernel⟩
theorem dJ0_charAt_5068e_0 : decode cJ0_charAt_5068e 0 = .ok (.aload_n 0, 1) := by decide +kernel
theorem dJ0_charAt_5068e_1 : decode cJ0_charAt_5068e 1 = .ok (.invokevirtual 492, 3) := by decide +kernel
theorem dJ0_charAt_5068e_4 : decode cJ0_charAt_5068e 4 = .ok (.ifCond .eq 12, 3) := by decide +kernel
theorem dJ0_charAt_5068e_7 : decode cJ0_charAt_5068e 7 = .ok (.aload_n 0, 1) := by decide +kernel
theorem dJ0_charAt_5068e_8 : decode cJ0_charAt_5068e 8 = .ok (.getfield 9, 3) := by decide +kernel
theorem dJ0_charAt_5068e_11 : decode cJ0_charAt_5068e 11 = .ok (.iload_n 1, 1) := by decide +kernel
theorem dJ0_charAt_5068e_12 : decode cJ0_charAt_5068e 12 = .ok (.invokestatic 495, 3) := by decide +kernel
theorem dJ0_charAt_5068e_15 : decode cJ0_charAt_5068e 15 = .ok (.ireturn, 1) := by decide +kernel
theorem dJ0_charAt_5068e_16 : decode cJ0_charAt_5068e 16 = .ok (.aload_n 0, 1) := by decide +kernel
theorem dJ0_charAt_5068e_17 : decode cJ0_charAt_5068e 17 = .ok (.getfield 9, 3) := by decide +kernel
theorem dJ0_charAt_5068e_20 : decode cJ0_charAt_5068e 20 = .ok (.iload_n 1, 1) := by decide +kernel
theorem dJ0_charAt_5068e_21 : decode cJ0_charAt_5068e 21 = .ok (.invokestatic 498, 3) := by decide +kernel
theorem dJ0_charAt_5068e_24 : decode cJ0_charAt_5068e 24 = .ok (.ireturn, 1) := by decide +kernel
set_option maxRecDepth 8000 in
theorem lb_J0_coder_7d493 : pq_LB yJ0_coder_7d493 cJ0_coder_7d493 1 (some .byte) 0 := ⟨pq_t1 13 rfl rfl, pq_t2 147 rfl rfl, by decide +kernel, by decide +kernel, by decide +kernel⟩
theorem dJ0_coder_7d493_0 : decode cJ0_coder_7d493 0 = .ok (.getstatic 38, 3) := by decide +kernel
theorem dJ0_coder_7d493_3 : decode cJ0_coder_7d493 3 = .ok (.ifCond .eq 10, 3) := by decide +kernel
theorem dJ0_coder_7d493_6 : decode cJ0_coder_7d493 6 = .ok (.aload_n 0, 1) := by decide +kernel
theorem dJ0_coder_7d493_7 : decode cJ0_coder_7d493 7 = .ok (.getfield 15, 3) := by decide +kernel
theorem dJ0_coder_7d493_10 : decode cJ0_coder_7d493 10 = .ok (.goto 4, 3) := by decide +kernel
theorem dJ0_coder_7d493_13 : decode cJ0_coder_7d493 13 = .ok (.iconst 1, 1) := by decide +kernel
theorem dJ0_coder_7d493_14 : decode cJ0_coder_7d493 14 = .ok (.ireturn, 1) := by decide +kernel
set_option maxRecDepth 8000 in
theorem lb_J0_isLatin1_aae02 : pq_LB yJ0_isLatin1_aae02 cJ0_isLatin1_aae02 1 (some .boolean) 0 := ⟨pq_t1 13 rfl rfl, pq_t2 162 rfl rfl, by decide +kernel, by decide +kernel, by decide +kernel⟩
theorem dJ0_isLatin1_aae02_0 : decode cJ0_isLatin1_aae02 0 = .ok (.getstatic 38, 3) := by decide +kernel
theorem dJ0_isLatin1_aae02_3 : decode cJ0_isLatin1_aae02 3 = .ok (.ifCond .eq 14, 3) := by decide +kernel
theorem dJ0_isLatin1_aae02_6 : decode cJ0_isLatin1_aae02 6 = .ok (.aload_n 0, 1) := by decide +kernel
theorem dJ0_isLatin1_aae02_7 : decode cJ0_isLatin1_aae02 7 = .ok (.getfield 15, 3) := by decide +kernel
theorem dJ0_isLatin1_aae02_10 : decode cJ0_isLatin1_aae02 10 = .ok (.ifCond .ne 7, 3) := by decide +kernel
theorem dJ0_isLatin1_aae02_13 : decode cJ0_isLatin1_aae02 13 = .ok (.iconst 1, 1) := by decide +kernel
theorem dJ0_isLatin1_aae02_14 : decode cJ0_isLatin1_aae02 14 = .ok (.goto 4, 3) := by decide +kernel
theorem dJ0_isLatin1_aae02_17 : decode cJ0_isLatin1_aae02 17 = .ok (.iconst 0, 1) := by decide +kernel
theorem dJ0_isLatin1_aae02_18 : decode cJ0_isLatin1_aae02 18 = .ok (.ireturn, 1) := by decide +kernel
set_option maxRecDepth 8000 in
theorem lb_J1_charAt_3b067 : pq_LB yJ1_charAt_3b067 cJ1_charAt_3b067 2 (some .char) 2 := ⟨pq_t1 14 rfl rfl, pq_t2 165 rfl rfl, by decide +kernel, by decide +kernel, by decide +kernel⟩
theorem dJ1_charAt_3b067_0 : decode cJ1_charAt_3b067 0 = .ok (.iload_n 1, 1) := by decide +kernel
theorem dJ1_charAt_3b067_1 : decode cJ1_charAt_3b067 1 = .ok (.aload_n 0, 1) := by decide +kernel
theorem dJ1_charAt_3b067_2 : decode cJ1_charAt_3b067 2 = .ok (.arraylength, 1) := by decide +kernel
theorem dJ1_charAt_3b067_3 : decode cJ1_charAt_3b067 3 = .ok (.invokestatic 9, 3) := by decide +kernel
theorem dJ1_charAt_3b067_6 : decode cJ1_charAt_3b067 6 = .ok (.aload_n 0, 1) := by decide +kernel
theorem dJ1_charAt_3b067_7 : decode cJ1_charAt_3b067 7 = .ok (.iload_n 1, 1) := by decide +kernel
theorem dJ1_charAt_3b067_8 : decode cJ1_charAt_3b067 8 = .ok (.baload, 1) := by decide +kernel
theorem dJ1_charAt_3b067_9 : decode cJ1_charAt_3b067 9 = .ok (.sipush 255, 3) := by decide +kernel
theorem dJ1_charAt_3b067_12 : decode cJ1_charAt_3b067 12 = .ok (.iand, 1) := by decide +kernel
theorem dJ1_charAt_3b067_13 : decode cJ1_charAt_3b067 13 = .ok (.i2c, 1) := by decide +kernel
theorem dJ1_charAt_3b067_14 : decode cJ1_charAt_3b067 14 = .ok (.ireturn, 1) := by decide +kernel
set_option maxRecDepth 8000 in
theorem lb_J0_checkIndex_df160 : pq_LB yJ0_checkIndex_df160 cJ0_checkIndex_df160 2 none 2 := ⟨pq_t1 13 rfl rfl, pq_t2 168 rfl rfl, by decide +kernel, by decide +kernel, by decide +kernel⟩
theorem dJ0_checkIndex_df160_0 : decode cJ0_checkIndex_df160 0 = .ok (.iload_n 0, 1) := by decide +kernel
theorem dJ0_checkIndex_df160_1 : decode cJ0_checkIndex_df160 1 = .ok (.iload_n 1, 1) := by decide +kernel
theorem dJ0_checkIndex_df160_2 : decode cJ0_checkIndex_df160 2 = .ok (.getstatic 1053, 3) := by decide +kernel
theorem dJ0_checkIndex_df160_5 : decode cJ0_checkIndex_df160 5 = .ok (.invokestatic 1059, 3) := by decide +kernel
theorem dJ0_checkIndex_df160_8 : decode cJ0_checkIndex_df160 8 = .ok (.pop, 1) := by decide +kernel
theorem dJ0_checkIndex_df160_9 : decode cJ0_checkIndex_df160 9 = .ok (.return_, 1) := by decide +kernel
set_option maxRecDepth 8000 in
theorem lb_J3_checkIndex_8e157 : pq_LB yJ3_checkIndex_8e157 cJ3_checkIndex_8e157 3 (some .int) 3 := ⟨pq_t1 15 rfl rfl, pq_t2 173 rfl rfl, by decide +kernel, by decide +kernel, by decide +kernel⟩
theorem dJ3_checkIndex_8e157_0 : decode cJ3_checkIndex_8e157 0 = .ok (.iload_n 0, 1) := by decide +kernel
theorem dJ3_checkIndex_8e157_1 : decode cJ3_checkIndex_8e157 1 = .ok (.ifCond .lt 8, 3) := by decide +kernel
theorem dJ3_checkIndex_8e157_4 : decode cJ3_checkIndex_8e157 4 = .ok (.iload_n 0, 1) := by decide +kernel
theorem dJ3_checkIndex_8e157_5 : decode cJ3_checkIndex_8e157 5 = .ok (.iload_n 1, 1) := by decide +kernel
theorem dJ3_checkIndex_8e157_6 : decode cJ3_checkIndex_8e157 6 = .ok (.if_icmp .lt 10, 3) := by decide +kernel
theorem dJ3_checkIndex_8e157_9 : decode cJ3_checkIndex_8e157 9 = .ok (.aload_n 2, 1) := by decide +kernel
theorem dJ3_checkIndex_8e157_10 : decode cJ3_checkIndex_8e157 10 = .ok (.iload_n 0, 1) := by decide +kernel
theorem dJ3_checkIndex_8e157_11 : decode cJ3_checkIndex_8e157 11 = .ok (.iload_n 1, 1) := by decide +kernel
theorem dJ3_checkIndex_8e157_12 : decode cJ3_checkIndex_8e157 12 = .ok (.invokestatic 95, 3) := by decide +kernel
theorem dJ3_checkIndex_8e157_15 : decode cJ3_checkIndex_8e157 15 = .ok (.athrow, 1) := by decide +kernel
theorem dJ3_checkIndex_8e157_16 : decode cJ3_checkIndex_8e157 16 = .ok (.iload_n 0, 1) := by decide +kernel
theorem dJ3_checkIndex_8e157_17 : decode cJ3_checkIndex_8e157 17 = .ok (.ireturn, 1) := by decide +kernel
set_option maxRecDepth 8000 in
theorem lv_J0_335 : Cond.methodLink RJ0 335 yJ0_coder_7d493 ∈ pq_G ∧ Cond.instanceMethod yJ0_coder_7d493 ∈ pq_G ∧ Cond.selects yJ0_coder_7d493.cls yJ0_coder_7d493 yJ0_coder_7d493 ∈ pq_G := ⟨pq_t2 144 rfl rfl, pq_t2 145 rfl rfl, pq_t2 146 rfl rfl⟩
set_option maxRecDepth 8000 in
theorem lv_J0_492 : Cond.methodLink RJ0 492 yJ0_isLatin1_aae02 ∈ pq_G ∧ Cond.instanceMethod yJ0_isLatin1_aae02 ∈ pq_G ∧ Cond.selects yJ0_isLatin1_aae02.cls yJ0_isLatin1_aae02 yJ0_isLatin1_aae02 ∈ pq_G := ⟨pq_t2 159 rfl rfl, pq_t2 160 rfl rfl, pq_t2 161 rfl rfl⟩
set_option maxRecDepth 8000 in
theorem lv_J0_495 : Cond.methodLink RJ0 495 yJ1_charAt_3b067 ∈ pq_G ∧ Cond.static yJ1_charAt_3b067 ∈ pq_G := ⟨pq_t2 163 rfl rfl, pq_t2 164 rfl rfl⟩
set_option maxRecDepth 8000 in
theorem lv_J1_9 : Cond.methodLink RJ1 9 yJ0_checkIndex_df160 ∈ pq_G ∧ Cond.static yJ0_checkIndex_df160 ∈ pq_G := ⟨pq_t2 166 rfl rfl, pq_t2 167 rfl rfl⟩
set_option maxRecDepth 8000 in
theorem lv_J0_1059 : Cond.methodLink RJ0 1059 yJ3_checkIndex_8e157 ∈ pq_G ∧ Cond.static yJ3_checkIndex_8e157 ∈ pq_G := ⟨pq_t2 171 rfl rfl, pq_t2 172 rfl rfl⟩
set_option maxRecDepth 8000 in
theorem li_J0_length_8abf5 : Cond.instanceMethod yJ0_length_8abf5 ∈ pq_G ∧ Cond.selects yJ0_length_8abf5.cls yJ0_length_8abf5 yJ0_length_8abf5 ∈ pq_G := ⟨pq_t2 141 rfl rfl, pq_t2 142 rfl rfl⟩
set_option maxRecDepth 8000 in
theorem li_J0_charAt_5068e : Cond.instanceMethod yJ0_charAt_5068e ∈ pq_G ∧ Cond.selects yJ0_charAt_5068e.cls yJ0_charAt_5068e yJ0_charAt_5068e ∈ pq_G := ⟨pq_t2 156 rfl rfl, pq_t2 157 rfl rfl⟩
set_option maxRecDepth 8000 in
theorem ks_comp : Cond.fieldLink RJ0 38 "java/lang/String" "COMPACT_STRINGS" "Z" ∈ pq_G := pq_t2 148 rfl rfl
set_option maxRecDepth 8000 in
theorem ks_val : Cond.fieldLink RJ0 9 "java/lang/String" "value" "[B" ∈ pq_G := pq_t7 59 rfl rfl
set_option maxRecDepth 8000 in
theorem ks_cod : Cond.fieldLink RJ0 15 "java/lang/String" "coder" "B" ∈ pq_G := pq_t7 60 rfl rfl
set_option maxRecDepth 8000 in
theorem ks_sio : Cond.fieldLink RJ0 1053 "jdk/internal/util/Preconditions" "SIOOBE_FORMATTER" "Ljava/util/function/BiFunction;" ∈ pq_G := pq_t2 169 rfl rfl
section STR
variable {X : pq_X} {g : pq_g} {S : pq_S} {α : Type} {res : α} {nL pc : Nat} {L : List (Nat × Value)} {st : List Value} {h : pq_H} {F : Option α} {b : ByteArray} {own : String}
theorem pq_hS (hK : pq_K X S) {H : Heap} {locs : List Loc} (hS : va_S X.2.2.2.1 X.2.2.2.2 H locs) : va_S X.2.2.2.1 X.1.2.2.2.2.heap H locs := by
  have hS1 := hS
  rw [hK.2.2.1] at hS1
  exact hS1
theorem v_ifeqN (hB : pq_B X b nL own) {a : Int32} (hne : ¬ a = 0) {off : Int} {tgt : Nat} (d : decode b pc = .ok (.ifCond .eq off, 3)) (ht : (pc : Int) + off = (tgt : Int)) (k : V X S res nL (pc + 3) L st h F) : V X S res nL pc L (.int a :: st) h F := fun e ls H locs hl hP hS => lv_if_eq hB.1 hB.2.1 d ht (fun z => absurd z hne) (fun _ => k e ls H locs hl hP hS)
theorem v_ifneN (hB : pq_B X b nL own) {a : Int32} (hne : a = 0) {off : Int} {tgt : Nat} (d : decode b pc = .ok (.ifCond .ne off, 3)) (ht : (pc : Int) + off = (tgt : Int)) (k : V X S res nL (pc + 3) L st h F) : V X S res nL pc L (.int a :: st) h F := fun e ls H locs hl hP hS => lv_if_ne hB.1 hB.2.1 d ht (fun z => absurd hne z) (fun _ => k e ls H locs hl hP hS)
theorem v_ifltN (hB : pq_B X b nL own) {a : Int32} (hne : ¬ a < 0) {off : Int} {tgt : Nat} (d : decode b pc = .ok (.ifCond .lt off, 3)) (ht : (pc : Int) + off = (tgt : Int)) (k : V X S res nL (pc + 3) L st h F) : V X S res nL pc L (.int a :: st) h F := fun e ls H locs hl hP hS => lv_if_lt hB.1 hB.2.1 d ht (fun z => absurd z hne) (fun _ => k e ls H locs hl hP hS)
theorem v_icmpltY (hB : pq_B X b nL own) {a c : Int32} (hne : a < c) {off : Int} {tgt : Nat} (d : decode b pc = .ok (.if_icmp .lt off, 3)) (ht : (pc : Int) + off = (tgt : Int)) (k : V X S res nL tgt L st h F) : V X S res nL pc L (.int c :: .int a :: st) h F := fun e ls H locs hl hP hS => lv_icmp_lt hB.1 hB.2.1 d ht (fun _ => k e ls H locs hl hP hS) (fun z => absurd hne z)
theorem v_comp (hB : pq_B X b nL RJ0) (hK : pq_K X (SC g)) (d : decode b pc = .ok (.getstatic 38, 3)) (kk : V X (SC g) res nL (pc + 3) L (.int 1 :: st) h F) : V X (SC g) res nL pc L st h F := fun e ls H locs hl hP hS => va_gets hB.1 hB.2.1 (envC_comp hK.2.2.2.1) (pq_hS hK hS) hB.2.2.2.1 (hB.2.2.2.2 _ ks_comp) (fun _ z => z) d (kk e ls H locs hl hP hS)
theorem v_sval (hB : pq_B X b nL RJ0) (hK : pq_K X (SC g)) {w : Nat} (hw : w < 5) (d : decode b pc = .ok (.getfield 9, 3)) (kk : V X (SC g) res nL (pc + 3) L (.ref (g.2.2.2.2.2 w) :: st) h F) : V X (SC g) res nL pc L (.ref (g.2.2.2.2.1 w) :: st) h F := fun e ls H locs hl hP hS => vk_getf hB.1 hB.2.1 ((envC_str hK.2.2.2.1).1 w hw).2.2.1 (pq_hS hK hS) hB.2.2.2.1 (hB.2.2.2.2 _ ks_val) (fun _ z => z) d (kk e ls H locs hl hP hS)
theorem v_scod (hB : pq_B X b nL RJ0) (hK : pq_K X (SC g)) {w : Nat} (hw : w < 5) (d : decode b pc = .ok (.getfield 15, 3)) (kk : V X (SC g) res nL (pc + 3) L (.int 0 :: st) h F) : V X (SC g) res nL pc L (.ref (g.2.2.2.2.1 w) :: st) h F := fun e ls H locs hl hP hS => vk_getf hB.1 hB.2.1 ((envC_str hK.2.2.2.1).1 w hw).2.1 (pq_hS hK hS) hB.2.2.2.1 (hB.2.2.2.2 _ ks_cod) (fun _ z => z) d (kk e ls H locs hl hP hS)
theorem v_slen (hB : pq_B X b nL own) (hK : pq_K X (SC g)) {w : Nat} (hw : w < 5) (d : decode b pc = .ok (.arraylength, 1)) (kk : V X (SC g) res nL (pc + 1) L (.int (nI (txL.getD w 0)) :: st) h F) : V X (SC g) res nL pc L (.ref (g.2.2.2.2.2 w) :: st) h F := fun e ls H locs hl hP hS => va_tlen hB.1 hB.2.1 ((envC_str hK.2.2.2.1).1 w hw).2.2.2 (pq_hS hK hS) rfl d (kk e ls H locs hl hP hS)
theorem v_sbyte (hB : pq_B X b nL own) (hK : pq_K X (SC g)) {w : Nat} (hw : w < 5) {i : Int32} (hi : inb i (txL.getD w 0) = true) (d : decode b pc = .ok (.baload, 1)) (kk : V X (SC g) res nL (pc + 1) L (.int ((txB.getD w []).getD i.toNatClampNeg 0) :: st) h F) : V X (SC g) res nL pc L (.int i :: .ref (g.2.2.2.2.2 w) :: st) h F := fun e ls H locs hl hP hS => va_tb hB.1 hB.2.1 ((envC_str hK.2.2.2.1).1 w hw).2.2.2 (pq_hS hK hS) (inb_in hi) rfl d (kk e ls H locs hl hP hS)
theorem v_i2c (hB : pq_B X b nL own) {a : Int32} (d : decode b pc = .ok (.i2c, 1)) (k : V X S res nL (pc + 1) L (.int (a.toUInt32 % 65536).toInt32 :: st) h F) : V X S res nL pc L (.int a :: st) h F := fun e ls H locs hl hP hS => lv_i2c hB.1 hB.2.1 d rfl (k e ls H locs hl hP hS)
theorem v_nret {x : Int32} {ty : FieldType} {rf rl : Nat} (hn : narrow ty (.int x) = .int x) (hB : pq_B X b nL own) (hK : pq_K X S) (hR : pq_R X S (some ty) rf rl (some (.int x)) h) (d : decode b pc = .ok (.ireturn, 1)) : V X S res nL pc L [.int x] h F := fun e ls H locs hl hP hS => by
  have hq := pq_end hK hR hP hS
  have hR2 := hR
  obtain ⟨-, h2, h3, h4⟩ := hR2
  rw [h4]
  exact W.zret hB.1 hB.2.1 h2 hn hq hS.2.2 d h3
theorem v_callVr {y : MethodName} {bb : ByteArray} {n : Nat} {ret : Option FieldType} {k idx rf rl RF RL a : Nat} {o : Option Value} {h' : pq_H} {st0 : List Value} (hB : pq_B X b nL own) (hK : pq_K X S) (hRm : pq_Rm X RF RL) (As : List Value) (st : List Value) (rc : ∀ (H : Heap) (locs : List Loc), va_S X.2.2.2.1 X.1.2.2.2.2.heap H locs → ∃ cell : Cell, H[a]? = some cell ∧ cell.vm.isStatics = false ∧ X.1.2.2.2.2.vm.findClass y.cls = some cell.cls) (lk : pq_LB y bb n ret k) (lv : Cond.methodLink own idx y ∈ pq_G ∧ Cond.instanceMethod y ∈ pq_G ∧ Cond.selects y.cls y y ∈ pq_G) (hM : pq_M S X.2.2.2.1 X.1.2.1 y bb n ret rf rl (.ref a :: As) h o h') (d : decode b pc = .ok (.invokevirtual idx, 3)) (hn : As.length = k) (hst : st0 = As.reverse ++ .ref a :: st) (hW : (st.map fun v => v.category).sum ≤ 8) (hr : rf + 1 ≤ RF) (hr2 : 8 + (n + 11) + rl ≤ RL) : pq_St X S nL pc L st0 h o.toList h' st := by
  intro α res F kk e ls H locs hl hP hS
  refine pq_call (S := S) (A := X.2.2.2.1) (o := o) (h' := h') (a := (Value.ref a :: As).toArray) (rest := st) ?_ hS (fun H1 locs1 hP1 hS1 => kk e ls H1 locs1 hl hP1 hS1)
  exact va_runV (As := As) (rest := st) (C := y.cls) ⟨hB.1, hB.2.1, hB.2.2.1, hB.2.2.2.1, hB.2.2.2.2⟩ hM ⟨pq_cb hB hRm lk lv.1 hr hr2, hB.2.2.2.2 _ lv.2.1, hB.2.2.2.2 _ lv.2.2⟩ ⟨pq_blind hK.A, rc H locs (pq_hS hK hS), fun U hU hW2 => ⟨rfl, pq_wd hK hP hS hU hW2⟩⟩ rfl hn hl.1 hst (lv_room hW) d ⟨Nat.zero_le _, Nat.zero_le _⟩
theorem v_srecv (hK : pq_K X (SC g)) {w : Nat} (hw : w < 5) : ∀ (H : Heap) (locs : List Loc), va_S X.2.2.2.1 X.1.2.2.2.2.heap H locs → ∃ cell : Cell, H[g.2.2.2.2.1 w]? = some cell ∧ cell.vm.isStatics = false ∧ X.1.2.2.2.2.vm.findClass "java/lang/String" = some cell.cls := fun H locs hS => vk_recv (envC_str hK.2.2.2.1) hw hS
end STR
theorem c_J0_coder (g : pq_g) {A : Nat → Prop} (hA : pq_A (SC g) A) (l : Launch) (w : Nat) (hw : w < 5) (h : pq_H) : pq_M (SC g) A l yJ0_coder_7d493 cJ0_coder_7d493 1 (some .byte) 0 0 [.ref (g.2.2.2.2.1 w)] h (some (.int 0)) h := by
  refine pq_met hA l (own := RJ0) 0 0 _ [(0, .ref (g.2.2.2.2.1 w))] h _ h (by decide +kernel) rfl (Nat.le_of_ble_eq_true rfl) rfl (fun X hXl hXA hB hK hR => ?_)
  refine v_comp hB hK dJ0_coder_7d493_0 ?_
  refine v_ifeqN (tgt := 13) hB (by decide) dJ0_coder_7d493_3 rfl ?_
  refine v_aload_n hB 0 dJ0_coder_7d493_6 rfl rfl ?_
  refine v_scod hB hK hw dJ0_coder_7d493_7 ?_
  refine v_goto (tgt := 14) hB dJ0_coder_7d493_10 rfl ?_
  exact v_nret rfl hB hK hR dJ0_coder_7d493_14
theorem c_J0_isLatin1 (g : pq_g) {A : Nat → Prop} (hA : pq_A (SC g) A) (l : Launch) (w : Nat) (hw : w < 5) (h : pq_H) : pq_M (SC g) A l yJ0_isLatin1_aae02 cJ0_isLatin1_aae02 1 (some .boolean) 0 0 [.ref (g.2.2.2.2.1 w)] h (some (.int 1)) h := by
  refine pq_met hA l (own := RJ0) 0 0 _ [(0, .ref (g.2.2.2.2.1 w))] h _ h (by decide +kernel) rfl (Nat.le_of_ble_eq_true rfl) rfl (fun X hXl hXA hB hK hR => ?_)
  refine v_comp hB hK dJ0_isLatin1_aae02_0 ?_
  refine v_ifeqN (tgt := 17) hB (by decide) dJ0_isLatin1_aae02_3 rfl ?_
  refine v_aload_n hB 0 dJ0_isLatin1_aae02_6 rfl rfl ?_
  refine v_scod hB hK hw dJ0_isLatin1_aae02_7 ?_
  refine v_ifneN (tgt := 17) hB rfl dJ0_isLatin1_aae02_10 rfl ?_
  refine v_iconst hB 1 dJ0_isLatin1_aae02_13 (by decide) ?_
  refine v_goto (tgt := 18) hB dJ0_isLatin1_aae02_14 rfl ?_
  exact v_nret rfl hB hK hR dJ0_isLatin1_aae02_18
theorem c_J0_length (g : pq_g) {A : Nat → Prop} (hA : pq_A (SC g) A) (l : Launch) (w : Nat) (hw : w < 5) (h : pq_H) : pq_M (SC g) A l yJ0_length_8abf5 cJ0_length_8abf5 1 (some .int) 1 20 [.ref (g.2.2.2.2.1 w)] h (some (.int (nI (txL.getD w 0)))) h := by
  refine pq_met hA l (own := RJ0) 1 20 _ [(0, .ref (g.2.2.2.2.1 w))] h _ h (by decide +kernel) rfl (Nat.le_of_ble_eq_true rfl) rfl (fun X hXl hXA hB hK hR => ?_)
  refine v_aload_n hB 0 dJ0_length_8abf5_0 rfl rfl ?_
  refine v_sval hB hK hw dJ0_length_8abf5_1 ?_
  refine v_slen hB hK hw dJ0_length_8abf5_4 ?_
  refine v_aload_n hB 0 dJ0_length_8abf5_5 rfl rfl ?_
  refine v_bT (v_callVr hB hK hR.rm [] [.int (nI (txL.getD w 0))] (v_srecv hK hw) lb_J0_coder_7d493 lv_J0_335 (c_J0_coder g hK.A X.1.2.1 w hw h) dJ0_length_8abf5_6 rfl rfl (Nat.le_of_ble_eq_true rfl) (by decide) (by decide)) ?_
  refine v_ishr hB dJ0_length_8abf5_9 ?_
  rw [sc_shr0 (by have : ∀ w, w < 5 → txL.getD w 0 < 2 ^ 31 := by decide
                  exact this w hw)]
  exact v_iret hB hK hR dJ0_length_8abf5_10
theorem c_J3_checkIndex (g : pq_g) {A : Nat → Prop} (hA : pq_A (SC g) A) (l : Launch) (i n : Int32) (v : Value) (hv : v.category = 1) (h0 : ¬ i < 0) (h1 : i < n) (h : pq_H) : pq_M (SC g) A l yJ3_checkIndex_8e157 cJ3_checkIndex_8e157 3 (some .int) 0 0 [.int i, .int n, v] h (some (.int i)) h := by
  refine pq_met hA l (own := RJ3) 0 0 _ [(0, .int i), (1, .int n), (2, v)] h _ h (by decide +kernel) rfl (by cases v <;> first | exact Nat.le_of_ble_eq_true rfl | (exact absurd hv (by simp [Value.category]))) rfl (fun X hXl hXA hB hK hR => ?_)
  refine v_iload_n hB 0 dJ3_checkIndex_8e157_0 rfl rfl ?_
  refine v_ifltN (tgt := 9) hB h0 dJ3_checkIndex_8e157_1 rfl ?_
  refine v_iload_n hB 0 dJ3_checkIndex_8e157_4 rfl rfl ?_
  refine v_iload_n hB 1 dJ3_checkIndex_8e157_5 rfl rfl ?_
  refine v_icmpltY (tgt := 16) hB h1 dJ3_checkIndex_8e157_6 rfl ?_
  refine v_iload_n hB 0 dJ3_checkIndex_8e157_16 rfl rfl ?_
  exact v_iret hB hK hR dJ3_checkIndex_8e157_17
theorem c_J0_checkIndex (g : pq_g) {A : Nat → Prop} (hA : pq_A (SC g) A) (l : Launch) (i n : Int32) (h0 : ¬ i < 0) (h1 : i < n) (h : pq_H) : pq_M (SC g) A l yJ0_checkIndex_df160 cJ0_checkIndex_df160 2 none 1 22 [.int i, .int n] h none h := by
  refine pq_met hA l (own := RJ0) 1 22 _ [(0, .int i), (1, .int n)] h _ h (by decide +kernel) rfl (Nat.le_of_ble_eq_true rfl) rfl (fun X hXl hXA hB hK hR => ?_)
  refine v_iload_n hB 0 dJ0_checkIndex_df160_0 rfl rfl ?_
  refine v_iload_n hB 1 dJ0_checkIndex_df160_1 rfl rfl ?_
  have k : ∀ v : Value, v.category = 1 → V X (SC g) () 2 5 [(0, .int i), (1, .int n)] [v, .int n, .int i] h (some ()) := fun v hv => by
    refine v_bT (v_callS hB hK hR.rm [.int i, .int n, v] [] lb_J3_checkIndex_8e157 lv_J0_1059 (c_J3_checkIndex g hK.A X.1.2.1 i n v hv h0 h1 h) dJ0_checkIndex_df160_5 rfl rfl (Nat.le_of_ble_eq_true rfl) (by decide) (by decide)) ?_
    refine v_pop hB dJ0_checkIndex_df160_8 rfl ?_
    exact v_vret hB hK hR dJ0_checkIndex_df160_9
  intro e ls H locs hl hP hS
  rcases envC_sio hK.2.2.2.1 with hz | ⟨t, hz⟩
  · exact va_gets hB.1 hB.2.1 hz (pq_hS hK hS) hB.2.2.2.1 (hB.2.2.2.2 _ ks_sio) (fun _ z => z) dJ0_checkIndex_df160_2 (k .null rfl e ls H locs hl hP hS)
  · exact va_gets hB.1 hB.2.1 hz (pq_hS hK hS) hB.2.2.2.1 (hB.2.2.2.2 _ ks_sio) (fun _ z => z) dJ0_checkIndex_df160_2 (k (.ref t) rfl e ls H locs hl hP hS)
theorem tx_char : ∀ w, w < 5 → ∀ j, j < txL.getD w 0 → ((((txB.getD w []).getD j 0) &&& 255).toUInt32 % 65536).toInt32 = (txB.getD w []).getD j 0 := by decide +kernel
theorem tx_nar : ∀ w, w < 5 → ∀ j, j < txL.getD w 0 → narrow .char (.int ((txB.getD w []).getD j 0)) = .int ((txB.getD w []).getD j 0) := by decide +kernel
theorem tx_lt : ∀ w, w < 5 → txL.getD w 0 < 100 := by decide
theorem inb_n0 {i : Int32} {n : Nat} (h : inb i n = true) : ¬ i < 0 := fun q => inb_in h (Or.inl q)
theorem inb_nI {i : Int32} {n : Nat} (hn : n < 2 ^ 31) (h : inb i n = true) : i < nI n := by
  obtain ⟨j, hj, rfl⟩ := vp_in_of (inb_in h) hn
  exact nI_lt hj hn
theorem c_J1_charAt (g : pq_g) {A : Nat → Prop} (hA : pq_A (SC g) A) (l : Launch) (w : Nat) (hw : w < 5) (i : Int32) (hi : inb i (txL.getD w 0) = true) (h : pq_H) : pq_M (SC g) A l yJ1_charAt_3b067 cJ1_charAt_3b067 2 (some .char) 2 43 [.ref (g.2.2.2.2.2 w), .int i] h (some (.int ((txB.getD w []).getD i.toNatClampNeg 0))) h := by
  refine pq_met hA l (own := RJ1) 2 43 _ [(0, .ref (g.2.2.2.2.2 w)), (1, .int i)] h _ h (by decide +kernel) rfl (Nat.le_of_ble_eq_true rfl) rfl (fun X hXl hXA hB hK hR => ?_)
  refine v_iload_n hB 1 dJ1_charAt_3b067_0 rfl rfl ?_
  refine v_aload_n hB 0 dJ1_charAt_3b067_1 rfl rfl ?_
  refine v_slen hB hK hw dJ1_charAt_3b067_2 ?_
  refine (v_callS hB hK hR.rm [.int i, .int (nI (txL.getD w 0))] [] lb_J0_checkIndex_df160 lv_J1_9 (c_J0_checkIndex g hK.A X.1.2.1 i _ (inb_n0 hi) (inb_nI (by have := tx_lt w hw; omega) hi) h) dJ1_charAt_3b067_3 rfl rfl (Nat.le_of_ble_eq_true rfl) (by decide) (by decide) : pq_St X (SC g) _ _ _ _ h [] h []) ?_
  refine v_aload_n hB 0 dJ1_charAt_3b067_6 rfl rfl ?_
  refine v_iload_n hB 1 dJ1_charAt_3b067_7 rfl rfl ?_
  refine v_sbyte hB hK hw hi dJ1_charAt_3b067_8 ?_
  refine v_sipush hB 255 dJ1_charAt_3b067_9 (by decide) ?_
  refine v_iand hB dJ1_charAt_3b067_12 ?_
  refine v_i2c hB dJ1_charAt_3b067_13 ?_
  rw [tx_char w hw _ (inb_lt hi)]
  exact v_nret (tx_nar w hw _ (inb_lt hi)) hB hK hR dJ1_charAt_3b067_14
theorem c_J0_charAt (g : pq_g) {A : Nat → Prop} (hA : pq_A (SC g) A) (l : Launch) (w : Nat) (hw : w < 5) (i : Int32) (hi : inb i (txL.getD w 0) = true) (h : pq_H) : pq_M (SC g) A l yJ0_charAt_5068e cJ0_charAt_5068e 2 (some .char) 3 64 [.ref (g.2.2.2.2.1 w), .int i] h (some (.int ((txB.getD w []).getD i.toNatClampNeg 0))) h := by
  refine pq_met hA l (own := RJ0) 3 64 _ [(0, .ref (g.2.2.2.2.1 w)), (1, .int i)] h _ h (by decide +kernel) rfl (Nat.le_of_ble_eq_true rfl) rfl (fun X hXl hXA hB hK hR => ?_)
  refine v_aload_n hB 0 dJ0_charAt_5068e_0 rfl rfl ?_
  refine v_bT (v_callVr hB hK hR.rm [] [] (v_srecv hK hw) lb_J0_isLatin1_aae02 lv_J0_492 (c_J0_isLatin1 g hK.A X.1.2.1 w hw h) dJ0_charAt_5068e_1 rfl rfl (Nat.le_of_ble_eq_true rfl) (by decide) (by decide)) ?_
  refine v_ifeqN (tgt := 16) hB (by decide) dJ0_charAt_5068e_4 rfl ?_
  refine v_aload_n hB 0 dJ0_charAt_5068e_7 rfl rfl ?_
  refine v_sval hB hK hw dJ0_charAt_5068e_8 ?_
  refine v_iload_n hB 1 dJ0_charAt_5068e_11 rfl rfl ?_
  refine v_bT (v_callS hB hK hR.rm [.ref (g.2.2.2.2.2 w), .int i] [] lb_J1_charAt_3b067 lv_J0_495 (c_J1_charAt g hK.A X.1.2.1 w hw i hi h) dJ0_charAt_5068e_12 rfl rfl (Nat.le_of_ble_eq_true rfl) (by decide) (by decide)) ?_
  exact v_nret (tx_nar w hw _ (inb_lt hi)) hB hK hR dJ0_charAt_5068e_15
section STR2
variable {X : pq_X} {g : pq_g} {α : Type} {res : α} {nL pc : Nat} {L : List (Nat × Value)} {st : List Value} {h : pq_H} {F : Option α} {b : ByteArray} {own : String}
theorem v_strlen {idx RF RL w : Nat} (hB : pq_B X b nL own) (hK : pq_K X (SC g)) (hRm : pq_Rm X RF RL) (lk : Cond.methodLink own idx yJ0_length_8abf5 ∈ pq_G) (hw : w < 5) (hr : 2 ≤ RF) (hr2 : 40 ≤ RL) (hW : (st.map fun v => v.category).sum ≤ 8) (d : decode b pc = .ok (.invokevirtual idx, 3)) (kk : V X (SC g) res nL (pc + 3) L (.int (nI (txL.getD w 0)) :: st) h F) : V X (SC g) res nL pc L (.ref (g.2.2.2.2.1 w) :: st) h F := v_bT (v_callVr hB hK hRm [] st (v_srecv hK hw) lb_J0_length_8abf5 ⟨lk, li_J0_length_8abf5⟩ (c_J0_length g hK.A X.1.2.1 w hw h) d rfl rfl hW hr hr2) kk
theorem v_strat {idx RF RL w : Nat} {i : Int32} (hB : pq_B X b nL own) (hK : pq_K X (SC g)) (hRm : pq_Rm X RF RL) (lk : Cond.methodLink own idx yJ0_charAt_5068e ∈ pq_G) (hw : w < 5) (hr : 4 ≤ RF) (hr2 : 85 ≤ RL) (hW : (st.map fun v => v.category).sum ≤ 8) (d : decode b pc = .ok (.invokevirtual idx, 3)) (kk : V X (SC g) res nL (pc + 3) L (.int ((txB.getD w []).getD i.toNatClampNeg 0) :: st) h F) : V X (SC g) res nL pc L (.int i :: .ref (g.2.2.2.2.1 w) :: st) h (gd (inb i (txL.getD w 0)) F) := fun e => by
  obtain ⟨c1, c2⟩ := gd_some e
  exact v_bT (v_callVr hB hK hRm [.int i] st (v_srecv hK hw) lb_J0_charAt_5068e ⟨lk, li_J0_charAt_5068e⟩ (c_J0_charAt g hK.A X.1.2.1 w hw i c1 h) d rfl rfl hW hr hr2) kk c2
end STR2
theorem dX0_textOf_0 : decode cX0_textOf 0 = .ok (.iload_n 0, 1) := by decide +kernel
theorem dX0_textOf_1 : decode cX0_textOf 1 = .ok (.tableswitch 43 0 3 #[31, 34, 37, 40], 31) := by decide +kernel
theorem dX0_textOf_32 : decode cX0_textOf 32 = .ok (.ldc 73, 2) := by decide +kernel
theorem dX0_textOf_34 : decode cX0_textOf 34 = .ok (.areturn, 1) := by decide +kernel
theorem dX0_textOf_35 : decode cX0_textOf 35 = .ok (.ldc 75, 2) := by decide +kernel
theorem dX0_textOf_37 : decode cX0_textOf 37 = .ok (.areturn, 1) := by decide +kernel
theorem dX0_textOf_38 : decode cX0_textOf 38 = .ok (.ldc 77, 2) := by decide +kernel
theorem dX0_textOf_40 : decode cX0_textOf 40 = .ok (.areturn, 1) := by decide +kernel
theorem dX0_textOf_41 : decode cX0_textOf 41 = .ok (.ldc 79, 2) := by decide +kernel
theorem dX0_textOf_43 : decode cX0_textOf 43 = .ok (.areturn, 1) := by decide +kernel
theorem dX0_textOf_44 : decode cX0_textOf 44 = .ok (.ldc 81, 2) := by decide +kernel
theorem dX0_textOf_46 : decode cX0_textOf 46 = .ok (.areturn, 1) := by decide +kernel
theorem c_X0_textOf (g : pq_g) {A : Nat → Prop} (hA : pq_A (SC g) A) (l : Launch) (p0 : Int32) (h : pq_H) : pq_M (SC g) A l yX0_textOf cX0_textOf 1 (some (.object "java/lang/String")) 0 0 [.int p0] h (some (.ref (g.2.2.2.2.1 (f_X0_textOf p0)))) h := by
  refine pq_met hA l (own := RX0) 0 0 _ [(0, .int p0)] h _ h (by decide +kernel) rfl (Nat.le_of_ble_eq_true rfl) rfl (fun X hXl hXA hB hK hR => ?_)
  refine v_iload_n hB 0 dX0_textOf_0 rfl rfl ?_
  by_cases n0 : p0 = 0
  · rw [show f_X0_textOf p0 = 0 by subst n0; rfl] at hR
    subst n0
    refine V.cast (F' := if (0 : Int32) = 0 then some () else none) (res' := ()) (fun _ => rfl) ?_
    refine v_tcase (tgt := 32) hB 0 dX0_textOf_1 (by decide) (by decide) rfl rfl ?_ (fun z => absurd rfl z)
    exact fun e ls H locs hl hP hS => va_ldcS hB.1 hB.2.1 hB.2.2.2.1 (vk_R.warm (State.WarmedH.refl _) (envC_t0 hK.2.2.2.1)) dX0_textOf_32 (v_aret (F := some ()) (res := ()) hB hK hR dX0_textOf_34 rfl ls H locs hl hP hS)
  by_cases n1 : p0 = 1
  · rw [show f_X0_textOf p0 = 1 by subst n1; rfl] at hR
    subst n1
    refine V.cast (F' := if (1 : Int32) = 1 then some () else none) (res' := ()) (fun _ => rfl) ?_
    refine v_tcase (tgt := 35) hB 1 dX0_textOf_1 (by decide) (by decide) rfl rfl ?_ (fun z => absurd rfl z)
    exact fun e ls H locs hl hP hS => va_ldcS hB.1 hB.2.1 hB.2.2.2.1 (vk_R.warm (State.WarmedH.refl _) (envC_t1 hK.2.2.2.1)) dX0_textOf_35 (v_aret (F := some ()) (res := ()) hB hK hR dX0_textOf_37 rfl ls H locs hl hP hS)
  by_cases n2 : p0 = 2
  · rw [show f_X0_textOf p0 = 2 by subst n2; rfl] at hR
    subst n2
    refine V.cast (F' := if (2 : Int32) = 2 then some () else none) (res' := ()) (fun _ => rfl) ?_
    refine v_tcase (tgt := 38) hB 2 dX0_textOf_1 (by decide) (by decide) rfl rfl ?_ (fun z => absurd rfl z)
    exact fun e ls H locs hl hP hS => va_ldcS hB.1 hB.2.1 hB.2.2.2.1 (vk_R.warm (State.WarmedH.refl _) (envC_t2 hK.2.2.2.1)) dX0_textOf_38 (v_aret (F := some ()) (res := ()) hB hK hR dX0_textOf_40 rfl ls H locs hl hP hS)
  by_cases n3 : p0 = 3
  · rw [show f_X0_textOf p0 = 3 by subst n3; rfl] at hR
    subst n3
    refine V.cast (F' := if (3 : Int32) = 3 then some () else none) (res' := ()) (fun _ => rfl) ?_
    refine v_tcase (tgt := 41) hB 3 dX0_textOf_1 (by decide) (by decide) rfl rfl ?_ (fun z => absurd rfl z)
    exact fun e ls H locs hl hP hS => va_ldcS hB.1 hB.2.1 hB.2.2.2.1 (vk_R.warm (State.WarmedH.refl _) (envC_t3 hK.2.2.2.1)) dX0_textOf_41 (v_aret (F := some ()) (res := ()) hB hK hR dX0_textOf_43 rfl ls H locs hl hP hS)
  have hf : f_X0_textOf p0 = 4 := by unfold f_X0_textOf; rw [if_neg n0, if_neg n1, if_neg n2, if_neg n3]
  rw [hf] at hR
  refine v_tdef (tgt := 44) hB dX0_textOf_1 (by have z0 := lv_neT n0 (a := 0) (by decide); have z1 := lv_neT n1 (a := 1) (by decide); have z2 := lv_neT n2 (a := 2) (by decide); have z3 := lv_neT n3 (a := 3) (by decide); omega) rfl ?_
  exact fun e ls H locs hl hP hS => va_ldcS hB.1 hB.2.1 hB.2.2.2.1 (vk_R.warm (State.WarmedH.refl _) (envC_t4 hK.2.2.2.1)) dX0_textOf_44 (v_aret (F := some ()) (res := ()) hB hK hR dX0_textOf_46 rfl ls H locs hl hP hS)
end
section
def va_AOA (ty : FieldType) (U : State) : Prop := (Cond.arrayOver (.array ty)).before #[] U = true
theorem va_AOA.use {ty : FieldType} {A : Array Value} {U : State} (h : va_AOA ty U) : (Cond.arrayOver (.array ty)).before A U = true := h
theorem va_AOA.spec {ty : FieldType} {s : State} (h : va_AOA ty s) : ∃ comp c k, s.vm.findClass (FieldType.array ty).toString = some comp ∧ (s.vm.classes.findIdx? fun x => match x.kind with | .array component _ => component == comp | _ => false) = some c ∧ s.vm.classes[c]? = some k ∧ k.kind = .array comp (.array ty) ∧ s.vm.findClass ("[" ++ (FieldType.array ty).toString) = some c := by
  unfold va_AOA Cond.before Cond.holds at h
  simp only [Cond.value, beq_iff_eq] at h
  cases hc : s.vm.findClass (FieldType.array ty).toString with
  | none => simp [hc] at h
  | some comp =>
    simp only [hc, Option.bind_some, Option.bind_eq_some_iff, Option.map_eq_some_iff] at h
    obtain ⟨c, hi, k, hk, hb⟩ := h
    obtain ⟨hlt, hp, -⟩ := Array.findIdx?_eq_some_iff_getElem.mp hi
    have hkk : s.vm.classes[c] = k := (Array.getElem?_eq_some_iff.mp hk).2
    rw [hkk] at hp
    cases hkind : k.kind with
    | array component t2 =>
      rw [hkind] at hb hp
      simp at hb hp
      exact ⟨comp, c, k, rfl, hi, hk, by rw [hkind, hp, hb.1], hb.2⟩
    | _ => rw [hkind] at hb; simp at hb
theorem va_AOA.moved {ty : FieldType} {u U : State} (hvm : u.vm.Alike U.vm) (h : va_AOA ty u) : va_AOA ty U := by
  obtain ⟨comp, c, k, h1, h2, h3, h4, h5⟩ := h.spec
  obtain ⟨k', hk', he⟩ := hvm.2.2 _ _ h3
  have hi : (U.vm.classes.findIdx? fun (x : Class) => match x.kind with | .array component _ => component == comp | _ => false) = some c := by
    have q1 := va_idx_bare U.vm comp
    have q2 := va_idx_bare u.vm comp
    have q3 : U.vm.bare = u.vm.bare := by first | exact hvm.bare_eq.symm | exact hvm.bare_eq
    rw [q3] at q1
    exact (q1.symm.trans q2).trans h2
  have hkind : k'.kind = .array comp (.array ty) := by rw [he]; exact h4
  have f1 : U.vm.findClass (FieldType.array ty).toString = some comp := by rw [hvm.findClass]; exact h1
  have f2 : U.vm.findClass ("[" ++ (FieldType.array ty).toString) = some c := by rw [hvm.findClass]; exact h5
  unfold va_AOA Cond.before Cond.holds
  simp only [Cond.value]
  rw [f1, Option.bind_some]
  refine (congrArg (fun o : Option Nat => (o.bind (fun c => (U.vm.classes[c]?).map fun (k : Class) => match k.kind with | .array _ t2 => decide (t2 = FieldType.array ty) && decide (U.vm.findClass ("[" ++ (FieldType.array ty).toString) = some c) | _ => false) == some true)) hi).trans ?_
  simp [hk', hkind, f2]
/-! ===== BEGIN new T[n][m]: the outer array a place, the inner ones among the pooled ===== -/
/-- f, but v at every address of l -/
def vr_up {α : Type} (f : Nat → α) (l : List Nat) (v : α) : Nat → α := fun a => if a ∈ l then v else f a
theorem vr_up_in {α : Type} {f : Nat → α} {l : List Nat} {v : α} {a : Nat} (h : a ∈ l) : vr_up f l v a = v := if_pos h
theorem vr_up_ne {α : Type} {f : Nat → α} {l : List Nat} {v : α} {a : Nat} (h : a ∉ l) : vr_up f l v a = f a := if_neg h
theorem vr_rows {L l : List Nat} {f : Nat → va_E} {e : va_E} (h : ∀ a, a ∈ l → a ∉ L) : va_pl L f ++ l.map (fun a => (a, e)) = va_pl (L ++ l) (vr_up f l e) := by
  unfold va_pl
  rw [List.map_append]
  congr 1
  · apply List.map_congr_left
    intro a ha
    rw [vr_up_ne (fun q => h a q ha)]
  · apply List.map_congr_left
    intro a ha
    rw [vr_up_in ha]
theorem vr_lay {X rows : va_W} {x : Nat × va_E} {pl : va_W} {D : va_G} {cl : List vw_C} {H : Heap} (hP : va_P D cl (((X ++ pl) ++ [x]) ++ rows) H) : va_P D cl ((X ++ [x]) ++ (pl ++ rows)) H := by
  rw [List.append_assoc (X ++ pl)] at hP
  have h := va_P.swap hP
  rw [← List.append_assoc X] at h
  have h2 := va_P.swap h
  rw [List.append_assoc (X ++ [x])] at h2
  exact h2
theorem vr_layD {X rows : va_W} {x : Nat × va_E} {pl : va_W} {A : Nat → Prop} (hD : va_D A (((X ++ pl) ++ [x]) ++ rows)) : va_D A ((X ++ [x]) ++ (pl ++ rows)) := by
  rw [List.append_assoc (X ++ pl)] at hD
  have h := va_D.swap hD
  rw [← List.append_assoc X] at h
  have h2 := va_D.swap h
  rw [List.append_assoc (X ++ [x])] at h2
  exact h2
theorem vr_outer (c : ClassId) (N h0 : Nat) : ∀ i : Nat, Jvm.Free.Multi.outerC c N h0 i = arrV c N (fun j => va_rf (if j < i then some (h0 + 1 + j) else none))
  | 0 => by
    show ({ cls := c, slots := Array.replicate N .null, vm := .none } : Cell) = _
    rw [arrV_new]
    refine congrArg (arrV c N) (funext fun j => ?_)
    simp [va_rf]
  | i + 1 => by
    show (Jvm.Free.Multi.outerC c N h0 i).setSlot i (.ref (h0 + 1 + i)) = _
    rw [vr_outer c N h0 i, arrV_store]
    refine congrArg (arrV c N) (funext fun j => ?_)
    by_cases e : j = i
    · subst e
      simp [updV, va_rf]
    · by_cases h : j < i
      · simp [updV, e, h, Nat.lt_succ_of_lt h]
      · simp [updV, e, h, show ¬ j < i + 1 by omega]
section VGM
variable {p : Program} {l : Launch} {e : Env} {R : Room} {s : State} {m : MethodId} {args : Array Value} {below : List Frame} {meth : Method} {c : Code} {H : Heap} {locs : List Loc} {cells slots : Nat} {Q : State → Prop}
variable {cc : ByteArray} {pc : Nat} {ls : Array Slot} {rest : List Value} {D : va_G} {cl : List vw_C} {A : Nat → Prop} {a : Nat} {tys : List (ClassId × FieldType)} {ws : va_W} {H0 : Heap}
theorem va_mna {X : va_W} {L : List Nat} {f : Nat → va_E} {cc : ByteArray} (hexec : p.tables.exec = Jvm.exec) (hb : c.code = cc) {own : String} {index : Nat} {ty : FieldType} {cy : ClassId} (hown : s.vm.findClass own = some m.cls) (hclink : (Cond.classLink own index ("[" ++ (FieldType.array ty).toString)).before args s = true) (hover : va_AOA ty s) (harr : (Cond.arrayClass ty).before args s = true) (hcy : s.vm.findClass (FieldType.array ty).toString = some cy)
    (hK : va_K D cl tys s) (hP : va_P D cl (X ++ va_pl L f) H) (hD : va_D A (X ++ va_pl L f)) (hS : va_S A H0 H locs) (hA : ∀ q, H0.size ≤ q → A q) {n k : Int32} {N' K' : Nat} {z : vp_A} (hn : ¬ n < 0) (hk : ¬ k < 0) (hN : n.toNatClampNeg = N') (hM : k.toNatClampNeg = K')
    (hb1 : N' * 4 ≤ 536870912) (hb2 : K' * componentBytes ty ≤ 536870912) (hb3 : K' ≤ 536870912) (hdf : fits ty (defaultValue ty) = true) (hdd : (defaultValue ty).isDefault = true) (hcells : cells + (1 + N') ≤ R.cells) (hslots : slots + (N' + N' * K') ≤ R.slots) (hz : ∀ c : ClassId, Jvm.Free.Multi.innerC c K' (defaultValue ty) = vp_cell c z) (hdg : decode cc pc = .ok (.multianewarray index 2, 4))
    (kk : ∀ (q : Nat) (r : Nat → Nat) (cA : ClassId) (H1 : Heap), (∀ i j : Nat, i < N' → j < N' → r i = r j → i = j) → (∀ i : Nat, i < N' → r i ∉ L) → va_K D cl (tys ++ [(cA, .array ty)]) s →
      va_P D cl ((X ++ [(q, .inl (cA, N', .inr (.inr (.inr (.inr (fun i => if i < N' then some (r i) else none))))))]) ++ va_pl (L ++ (List.range N').map r) (vr_up f ((List.range N').map r) (.inl (cy, z)))) H1 → va_D A ((X ++ [(q, .inl (cA, N', .inr (.inr (.inr (.inr (fun i => if i < N' then some (r i) else none))))))]) ++ va_pl (L ++ (List.range N').map r) (vr_up f ((List.range N').map r) (.inl (cy, z)))) → va_S A H0 H1 locs →
      W p l e R s m args below meth c H1 locs (cells + 1 + N') (slots + N' + N' * K') Q (F0 m (pc + 4) ls (.ref q :: rest))) : W p l e R s m args below meth c H locs cells slots Q (F0 m pc ls (.int k :: .int n :: rest)) := by
  subst hN
  subst hM
  intro T hT Xs
  obtain ⟨vm₁, cA, comp, -, fA, fC, hO, -, X', step⟩ := Xs.multianewarray2F hexec hown hclink (va_AOA.use hover) harr (g := F0 m pc ls (.int k :: .int n :: rest)) rfl (by rw [hb]; exact hdg) rfl hn hk hb1 hb2 hb3 hdf hdd hcells hslots
  have ec : some cy = some comp := hcy.symm.trans fC
  cases ec
  generalize hF : Jvm.Free.Multi.fill (T.setVm vm₁) cA cy n.toNatClampNeg k.toNatClampNeg (defaultValue ty) n.toNatClampNeg = F at X' step
  have hTh : (T.setVm vm₁).heap = H := hT
  obtain ⟨f1, f2, -, -⟩ := Jvm.Free.Multi.fill_facts (T.setVm vm₁) cA cy n.toNatClampNeg k.toNatClampNeg (defaultValue ty) n.toNatClampNeg
  rw [hF, hTh] at f1 f2
  have hold : ∀ x : Nat, x < H.size → F.heap[x]? = H[x]? := fun x hx => by
    have := Jvm.Free.Multi.fill_old (T.setVm vm₁) cA cy n.toNatClampNeg k.toNatClampNeg (defaultValue ty) (a := x) (by rw [hTh]; exact hx) n.toNatClampNeg
    rw [hF, hTh] at this
    exact this
  have hrow : ∀ j : Nat, j < n.toNatClampNeg → F.heap[H.size + 1 + j]? = some (vp_cell cy z) := fun j hj => by
    have := Jvm.Free.Multi.fill_inner (T.setVm vm₁) cA cy n.toNatClampNeg k.toNatClampNeg (defaultValue ty) n.toNatClampNeg j hj
    rw [hF, hTh, hz] at this
    exact this
  have hout : Jvm.Free.Multi.outerC cA n.toNatClampNeg H.size n.toNatClampNeg = vp_cell cA (n.toNatClampNeg, .inr (.inr (.inr (.inr (fun i => if i < n.toNatClampNeg then some (H.size + 1 + i) else none))))) := by
    rw [vp_cell_q]
    exact vr_outer cA n.toNatClampNeg H.size n.toNatClampNeg
  rw [hout] at f2
  have hlt : ∀ a, a ∈ L → a < H.size := fun a ha => by
    obtain ⟨k9, hk9⟩ := va_pl_get (X := X) (f := f) ha
    exact (hP k9 _ hk9).lt
  have hnl : ∀ i : Nat, i < n.toNatClampNeg → H.size + 1 + i ∉ L := fun i _ h => by
    have := hlt _ h
    omega
  have hnm : ∀ a, a ∈ (List.range n.toNatClampNeg).map (fun i => H.size + 1 + i) → a ∉ L := fun a ha h => by
    obtain ⟨i, -, rfl⟩ := List.mem_map.mp ha
    have := hlt _ h
    omega
  have hP0 : va_P D cl (X ++ va_pl L f) F.heap := hP.kept (fun k9 x hx => hold x.1 ((hP k9 x hx).lt))
  have hP1 : va_P D cl ((X ++ va_pl L f) ++ [(H.size, .inl (cA, n.toNatClampNeg, .inr (.inr (.inr (.inr (fun i => if i < n.toNatClampNeg then some (H.size + 1 + i) else none))))))]) F.heap := hP0.app (fun k9 x hx => by
    have h0 : k9 < 1 := (List.getElem?_eq_some_iff.mp hx).1
    rw [show k9 = 0 by omega] at hx
    cases hx
    exact f2)
  have hP2 : va_P D cl (((X ++ va_pl L f) ++ [(H.size, .inl (cA, n.toNatClampNeg, .inr (.inr (.inr (.inr (fun i => if i < n.toNatClampNeg then some (H.size + 1 + i) else none))))))]) ++ ((List.range n.toNatClampNeg).map (fun i => H.size + 1 + i)).map (fun a => (a, .inl (cy, z)))) F.heap := hP1.app (fun k9 x hx => by
    obtain ⟨a, ha, rfl⟩ := List.mem_map.mp (List.mem_of_getElem? hx)
    obtain ⟨i, hi, rfl⟩ := List.mem_map.mp ha
    exact hrow i (List.mem_range.mp hi))
  have hD2 : va_D A (((X ++ va_pl L f) ++ [(H.size, .inl (cA, n.toNatClampNeg, .inr (.inr (.inr (.inr (fun i => if i < n.toNatClampNeg then some (H.size + 1 + i) else none))))))]) ++ ((List.range n.toNatClampNeg).map (fun i => H.size + 1 + i)).map (fun a => (a, .inl (cy, z)))) := by
    have hD1 := hD.push (e := .inl (cA, n.toNatClampNeg, .inr (.inr (.inr (.inr (fun i => if i < n.toNatClampNeg then some (H.size + 1 + i) else none)))))) hP rfl (hA _ hS.1)
    generalize hW1 : (X ++ va_pl L f) ++ [(H.size, .inl (cA, n.toNatClampNeg, .inr (.inr (.inr (.inr (fun i => if i < n.toNatClampNeg then some (H.size + 1 + i) else none))))))] = W1 at hD1 hP1 ⊢
    have hle : ∀ (k9 : Nat) (x : Nat × va_E), W1[k9]? = some x → x.1 ≤ H.size := fun k9 x hx => by
      rw [← hW1] at hx
      by_cases hl : k9 < (X ++ va_pl L f).length
      · rw [List.getElem?_append_left hl] at hx
        exact Nat.le_of_lt ((hP k9 x hx).lt)
      · rw [List.getElem?_append_right (by omega)] at hx
        have h0 : k9 - (X ++ va_pl L f).length < 1 := (List.getElem?_eq_some_iff.mp hx).1
        rw [show k9 - (X ++ va_pl L f).length = 0 by omega] at hx
        cases hx
        exact Nat.le_refl _
    have hr : ∀ (k9 : Nat) (x : Nat × va_E), (((List.range n.toNatClampNeg).map (fun i => H.size + 1 + i)).map (fun a => ((a, .inl (cy, z)) : Nat × va_E)))[k9]? = some x → x.1 = H.size + 1 + k9 := fun k9 x hx => by
      rw [List.getElem?_map, List.getElem?_map] at hx
      by_cases h9 : k9 < n.toNatClampNeg
      · rw [List.getElem?_range h9] at hx
        cases hx
        rfl
      · have hn0 : (List.range n.toNatClampNeg)[k9]? = none := List.getElem?_eq_none (by rw [List.length_range]; omega)
        rw [hn0] at hx
        cases hx
    refine ⟨fun i j x y hi hj hxy => ?_, fun k9 x hx => ?_⟩
    · by_cases h1 : i < W1.length <;> by_cases h2 : j < W1.length
      · rw [List.getElem?_append_left h1] at hi
        rw [List.getElem?_append_left h2] at hj
        exact hD1.1 i j x y hi hj hxy
      · rw [List.getElem?_append_left h1] at hi
        rw [List.getElem?_append_right (by omega)] at hj
        have := hle _ _ hi
        have := hr _ _ hj
        omega
      · rw [List.getElem?_append_right (by omega)] at hi
        rw [List.getElem?_append_left h2] at hj
        have := hle _ _ hj
        have := hr _ _ hi
        omega
      · rw [List.getElem?_append_right (by omega)] at hi hj
        have := hr _ _ hi
        have := hr _ _ hj
        omega
    · by_cases h1 : k9 < W1.length
      · rw [List.getElem?_append_left h1] at hx
        exact hD1.2 k9 x hx
      · rw [List.getElem?_append_right (by omega)] at hx
        have := hr _ _ hx
        exact hA _ (by have := hS.1; omega)
  have hAr : ArrOfT s cA (.array ty) := fun N9 z9 => by
    obtain ⟨-, k9, hk9, cm9, hkk9⟩ := (hO 0 0 0).1
    exact ⟨(fun q hq => by cases hq), k9, hk9, cm9, hkk9⟩
  have hK2 : va_K D cl (tys ++ [(cA, .array ty)]) s := ⟨hK.1, fun k9 x hx => by
    by_cases hl : k9 < tys.length
    · rw [List.getElem?_append_left hl] at hx
      exact hK.2 k9 x hx
    · rw [List.getElem?_append_right (by omega)] at hx
      have h0 : k9 - tys.length < 1 := (List.getElem?_eq_some_iff.mp hx).1
      rw [show k9 - tys.length = 0 by omega] at hx
      cases hx
      exact ⟨hAr, fA⟩⟩
  obtain ⟨t, a1, b1⟩ := kk H.size (fun i => H.size + 1 + i) cA F.heap (fun i j _ _ h => by have h9 : H.size + 1 + i = H.size + 1 + j := h; omega) hnl hK2 (by rw [← vr_rows hnm]; exact vr_lay hP2) (by rw [← vr_rows hnm]; exact vr_layD hD2) ⟨by rw [f1]; have := hS.1; omega, fun x h1 h2 => (hold x (Nat.lt_of_lt_of_le h1 hS.1)).trans (hS.2.1 x h1 h2), hS.2.2⟩ F rfl X'
  refine ⟨t, step t ?_, b1⟩
  have e : T.heap.size = H.size := by rw [hT]
  rw [e]
  exact a1
end VGM
/-! ===== END ===== -/
def nestI : List (String × Nat × MethodName × String) := [(RX10, 18, yX3_init, "FormsAboveNought"), (RX10, 25, yX2_init, "FormsAboveNought"), (RX10, 32, yX0_init, "FormsAboveNought"), (RX10, 39, yX7_init, "FormsAboveNought"), (RX10, 46, yX5_init, "FormsAboveNought"), (RX10, 53, yX8_init, "FormsAboveNought"), (RX10, 60, yX4_init, "FormsAboveNought"), (RX6, 22, yX9_init, "FormsAboveNought"), (RX6, 31, yX1_init, "FormsAboveNought")]
def envI (U : State) : Prop := (∀ q ∈ nestI, va_Nw (Cond.methodLinkNest q.1 q.2.1 q.2.2.1 q.2.2.2) U) ∧ va_AO "FormsAboveNought$Form" U ∧ va_AOA .int U ∧ va_AOA .long U
theorem envI.warm {s U : State} (hW : s.WarmedH U.vm) (h : envI s) : envI U := ⟨fun q hq => va_Nw.warmM hW (h.1 q hq), h.2.1.moved hW.alike, h.2.2.1.moved hW.alike, h.2.2.2.moved hW.alike⟩
abbrev pq_Y : Type := va_G × List vw_C × List (ClassId × FieldType)
/-- the walk of a constructor: its world is a list that grows -/
def pq_U (X : pq_X) (Y : pq_Y) (nL pc : Nat) (L : List (Nat × Value)) (ws : va_W) (k n : Nat) (st : List Value) : Prop :=
  ∀ (ls : Array Slot) (H : Heap) (locs : List Loc), lv_has ls nL L → va_P Y.1 Y.2.1 ws H → va_D X.2.2.2.1 ws → va_S X.2.2.2.1 X.2.2.2.2 H locs → W X.1.1 X.1.2.1 X.1.2.2.1 X.1.2.2.2.1 X.1.2.2.2.2 X.2.1.1 X.2.1.2.1 X.2.1.2.2.1 X.2.1.2.2.2.1 X.2.1.2.2.2.2 H locs k n X.2.2.1 (F0 X.2.1.1 pc ls st)
def pq_KI (X : pq_X) (Y : pq_Y) : Prop := va_K Y.1 Y.2.1 Y.2.2 X.1.2.2.2.2 ∧ X.2.2.2.2 = X.1.2.2.2.2.heap ∧ (∀ q, X.2.2.2.2.size ≤ q → X.2.2.2.1 q) ∧ envI X.1.2.2.2.2
def pq_Q2 (Y : pq_Y) (A : Nat → Prop) (Wc : (Nat → Nat) → va_W) : Array Value → State → Outcome → State → Prop := fun _ st oc t => (oc = .returned none ∧ ∃ a : Nat → Nat, va_P Y.1 Y.2.1 (Wc a) t.heap ∧ va_D A (Wc a)) ∧ va_F A st t
def pq_N (Y : pq_Y) (l : Launch) (y : MethodName) (b : ByteArray) (n rf rl mc ms : Nat) (q0 : Nat) (e0 : va_E) (Wc : (Nat → Nat) → va_W) : Prop := ∀ sz : Nat, Met l y (Cond.code y b n none :: pq_G) ({ frames := rf, cells := mc, slots := ms, locals := rl }) (va_Pc [.ref q0] (fun U => U.heap.size = sz ∧ va_P Y.1 Y.2.1 [(q0, e0)] U.heap ∧ va_K Y.1 Y.2.1 Y.2.2 U ∧ envI U)) (pq_Q2 Y (va_A [(q0, e0)] sz) Wc) mc ms (va_A [(q0, e0)] sz)
def pq_RI (X : pq_X) (Y : pq_Y) (rf rl mc ms : Nat) (Wc : (Nat → Nat) → va_W) : Prop := X.1.2.2.2.1 = { frames := rf, cells := mc, slots := ms, locals := rl } ∧ X.2.1.2.2.2.1.sig.returnType = none ∧ X.2.1.2.2.2.1.locks = false ∧ X.2.1.2.2.2.1.name = "<init>" ∧ X.2.2.1 = MQ X.2.1.2.2.1 (pq_Q2 Y X.2.2.2.1 Wc) X.2.1.2.1 X.1.2.2.2.2 mc ms X.2.2.2.1
theorem pq_metI {Y : pq_Y} (l : Launch) {y : MethodName} {b : ByteArray} {n : Nat} {own : String} (rf rl mc ms q0 : Nat) (e0 : va_E) (Wc : (Nat → Nat) → va_W) (hy : plainName y.cls = true) (ho : y.cls = own) (hn : y.name = "<init>") (hlen : 1 ≤ n)
    (key : ∀ X : pq_X, X.1.2.1 = l → pq_B X b n own → pq_KI X Y → pq_RI X Y rf rl mc ms Wc → pq_U X Y n 0 [(0, .ref q0)] [(q0, e0)] 0 0 []) : pq_N Y l y b n rf rl mc ms q0 e0 Wc := by
  subst ho
  intro sz
  refine Met.ofW (cc := b) (maxL := n) (ret := none) hy rfl ?_
  intro p e s m args below meth c s₁ B hml hv
  obtain ⟨rfl, hsz, hP, hK, hE⟩ := hv
  subst hsz
  have hts : ∀ w ∈ pq_G, w.before #[Value.ref q0] s = true := fun w hw => atoms_spec (ws := Cond.code y b n none :: pq_G) B.pre w (List.mem_cons_of_mem _ hw)
  have hl := lv_entry [Value.ref q0] (n := n) hlen
  rw [lg_entry_eq]
  have hl : lv_has _ n [(0, .ref q0)] := hl
  have hD : va_D (va_A [(q0, e0)] s.heap.size) [(q0, e0)] := ⟨fun i j p q hi hj _ => by
      have h1 : i < 1 := (List.getElem?_eq_some_iff.mp hi).1
      have h2 : j < 1 := (List.getElem?_eq_some_iff.mp hj).1
      omega, fun k q hk => va_A.in hk⟩
  exact key ((p, l, e, { frames := rf, cells := mc, slots := ms, locals := rl }, s), (m, #[Value.ref q0], below, meth, c), (MQ below (pq_Q2 Y (va_A [(q0, e0)] s.heap.size) Wc) #[Value.ref q0] s mc ms (va_A [(q0, e0)] s.heap.size), va_A [(q0, e0)] s.heap.size, s.heap)) rfl ⟨B.exec, B.bytes, hml, findClass_of_methodNamed B.named, hts⟩ ⟨hK, rfl, fun q h => Or.inr h, hE⟩ ⟨rfl, B.returns, B.notSynchronized, hn ▸ (name_of_methodNamed B.named B.method).1, rfl⟩ _ _ _ hl hP hD va_S.rf
section UU
variable {X : pq_X} {Y : pq_Y} {nL pc k n : Nat} {L : List (Nat × Value)} {st : List Value} {ws : va_W} {b : ByteArray} {own : String}
theorem u_iconst (hB : pq_B X b nL own) {i : Int} (v : Int32) (d : decode b pc = .ok (.iconst i, 1)) (hv : Int32.ofInt i = v) (kk : pq_U X Y nL (pc + 1) L ws k n (.int v :: st)) : pq_U X Y nL pc L ws k n st := fun ls H locs hl hP hD hS => lv_iconst hB.1 hB.2.1 d hv (kk ls H locs hl hP hD hS)
theorem u_bipush (hB : pq_B X b nL own) {i : Int} (v : Int32) (d : decode b pc = .ok (.bipush i, 2)) (hv : (Int8.ofInt i).toInt32 = v) (kk : pq_U X Y nL (pc + 2) L ws k n (.int v :: st)) : pq_U X Y nL pc L ws k n st := fun ls H locs hl hP hD hS => lv_bipush hB.1 hB.2.1 d hv (kk ls H locs hl hP hD hS)
theorem u_sipush (hB : pq_B X b nL own) {i : Int} (v : Int32) (d : decode b pc = .ok (.sipush i, 3)) (hv : (Int16.ofInt i).toInt32 = v) (kk : pq_U X Y nL (pc + 3) L ws k n (.int v :: st)) : pq_U X Y nL pc L ws k n st := fun ls H locs hl hP hD hS => lv_sipush hB.1 hB.2.1 d hv (kk ls H locs hl hP hD hS)
theorem u_dup (hB : pq_B X b nL own) {va : Value} (d : decode b pc = .ok (.dup, 1)) (hva : va.category = 1) (kk : pq_U X Y nL (pc + 1) L ws k n (va :: va :: st)) : pq_U X Y nL pc L ws k n (va :: st) := fun ls H locs hl hP hD hS => lv_dup hB.1 hB.2.1 d hva (kk ls H locs hl hP hD hS)
theorem u_aload_n (hB : pq_B X b nL own) {kk0 : Fin 4} {i : Nat} {x : Nat} (j : Nat) (d : decode b pc = .ok (.aload_n kk0, 1)) (hi : (kk0 : Nat) = i) (hL : L[j]? = some (i, .ref x)) (kk : pq_U X Y nL (pc + 1) L ws k n (.ref x :: st)) : pq_U X Y nL pc L ws k n st := fun ls H locs hl hP hD hS => lv_aload_n hB.1 hB.2.1 d hi (lv_at hl j hL) (kk ls H locs hl hP hD hS)
theorem u_iload_n (hB : pq_B X b nL own) {kk0 : Fin 4} {i : Nat} {x : Int32} (j : Nat) (d : decode b pc = .ok (.iload_n kk0, 1)) (hi : (kk0 : Nat) = i) (hL : L[j]? = some (i, .int x)) (kk : pq_U X Y nL (pc + 1) L ws k n (.int x :: st)) : pq_U X Y nL pc L ws k n st := fun ls H locs hl hP hD hS => lv_iload_n hB.1 hB.2.1 d hi (lv_at hl j hL) (kk ls H locs hl hP hD hS)
theorem u_istore_n (hB : pq_B X b nL own) {kk0 : Fin 4} {i : Nat} {x : Int32} (L' : List (Nat × Value)) (ks : List Nat) (d : decode b pc = .ok (.istore_n kk0, 1)) (hi : (kk0 : Nat) = i) (hn : i < nL) (hL : lv_pick ((i, Value.int x) :: L.filter (fun q => !(q.1 == i) && !(q.1 + 1 == i && q.2.category == 2))) ks = L') (kk : pq_U X Y nL (pc + 1) L' ws k n st) : pq_U X Y nL pc L ws k n (.int x :: st) := fun ls H locs hl hP hD hS => lv_istore_n hB.1 hB.2.1 d hi hl hn rfl (fun ls2 hl2 => kk ls2 H locs (lv_sub hl2 ks hL) hP hD hS)
theorem u_iinc (hB : pq_B X b nL own) {i : Nat} {c : Int} {x : Int32} (v : Int32) (L' : List (Nat × Value)) (j : Nat) (ks : List Nat) (d : decode b pc = .ok (.iinc i c, 3)) (hx : L[j]? = some (i, .int x)) (hv : x + Int32.ofInt c = v) (hn : i < nL) (hL : lv_pick ((i, Value.int v) :: L.filter (fun q => !(q.1 == i) && !(q.1 + 1 == i && q.2.category == 2))) ks = L') (kk : pq_U X Y nL (pc + 3) L' ws k n st) : pq_U X Y nL pc L ws k n st := fun ls H locs hl hP hD hS => lv_iinc hB.1 hB.2.1 d hl hx hv hn rfl (fun ls2 hl2 => kk ls2 H locs (lv_sub hl2 ks hL) hP hD hS)
theorem u_goto (hB : pq_B X b nL own) {off : Int} {tgt : Nat} (d : decode b pc = .ok (.goto off, 3)) (ht : (pc : Int) + off = (tgt : Int)) (kk : pq_U X Y nL tgt L ws k n st) : pq_U X Y nL pc L ws k n st := fun ls H locs hl hP hD hS => lv_goto hB.1 hB.2.1 d ht (kk ls H locs hl hP hD hS)
theorem u_geY (hB : pq_B X b nL own) {a c : Int32} {off : Int} {tgt : Nat} (d : decode b pc = .ok (.if_icmp .ge off, 3)) (ht : (pc : Int) + off = (tgt : Int)) (h : c ≤ a) (kk : pq_U X Y nL tgt L ws k n st) : pq_U X Y nL pc L ws k n (.int c :: .int a :: st) := fun ls H locs hl hP hD hS => lv_icmp_ge hB.1 hB.2.1 d ht (fun _ => kk ls H locs hl hP hD hS) (fun z => absurd h z)
theorem u_geN (hB : pq_B X b nL own) {a c : Int32} {off : Int} {tgt : Nat} (d : decode b pc = .ok (.if_icmp .ge off, 3)) (ht : (pc : Int) + off = (tgt : Int)) (h : ¬ c ≤ a) (kk : pq_U X Y nL (pc + 3) L ws k n st) : pq_U X Y nL pc L ws k n (.int c :: .int a :: st) := fun ls H locs hl hP hD hS => lv_icmp_ge hB.1 hB.2.1 d ht (fun z => absurd z h) (fun _ => kk ls H locs hl hP hD hS)
theorem u_obj {rf rl mc ms idx : Nat} {Wc : (Nat → Nat) → va_W} {a : Nat} (hB : pq_B X b nL own) (hR : pq_RI X Y rf rl mc ms Wc) (h1 : Cond.methodLink own idx Lib.objectInit ∈ pq_G) (h2 : Cond.instanceMethod Lib.objectInit ∈ pq_G) (h3 : Cond.code Lib.objectInit ⟨#[0xb1]⟩ 1 none ∈ pq_G) (hf : 1 ≤ rf) (hr : (st.map fun v => v.category).sum + 12 ≤ rl) (d : decode b pc = .ok (.invokespecial idx, 3)) (kk : pq_U X Y nL (pc + 3) L ws k n st) : pq_U X Y nL pc L ws k n (.ref a :: st) := fun ls H locs hl hP hD hS => W.objInit hB.1 hB.2.1 hB.2.2.2.1 (hB.2.2.2.2 _ h1) (hB.2.2.2.2 _ h2) (hB.2.2.2.2 _ h3) rfl (hl.1.trans hB.2.2.1.symm) rfl d (by rw [hR.1]; exact hf) (by rw [hR.1]; show 2 * 0 + _ + 12 ≤ rl; omega) (kk ls H locs hl hP hD hS)
theorem u_new {rf rl mc ms idx ci N : Nat} {Wc : (Nat → Nat) → va_W} {C : String} {T : u_T} (fs : List Value) (ty : Nat → FieldType) (hB : pq_B X b nL own) (hK : pq_KI X Y) (hR : pq_RI X Y rf rl mc ms Wc) (hc : Y.2.1[ci]? = some (C, T, N)) (hin : ∀ w ∈ u_ws C T N, w ∈ pq_G) (hty : ∀ k, k < N → parseFieldDescriptor (T k).2.2.1 = some (ty k)) (h1 : Cond.classLink own idx C ∈ pq_G) (h2 : Cond.instantiable C N ∈ pq_G) (h3 : Cond.initialized C ∈ pq_G) (hfs : ∀ j, j < N → defaultValue (ty j) = vp_V fs j) (hcell : k + 1 ≤ mc) (hslot : n + N ≤ ms) (d : decode b pc = .ok (.new idx, 3)) (kk : ∀ q, pq_U X Y nL (pc + 3) L (ws ++ [(q, .inr (ci, fs))]) (k + 1) (n + N) (.ref q :: st)) : pq_U X Y nL pc L ws k n st := fun ls H locs hl hP hD hS => va_new hB.1 hB.2.1 hB.2.2.2.2 hin ty hty hB.2.2.2.1 (hB.2.2.2.2 _ h1) (hB.2.2.2.2 _ h2) (hB.2.2.2.2 _ h3) hK.1 hP hD hS hK.2.2.1 hc hfs (by rw [hR.1]; exact hcell) (by rw [hR.1]; exact hslot) d (fun q H1 hP1 hD1 hS1 => kk q ls H1 locs hl hP1 hD1 hS1)
theorem va_RA.int {U : State} {c1 c2 : ClassId} (h1 : va_RA U c1 .int) (h2 : va_RA U c2 .int) : c1 = c2 := Option.some.inj (h1.symm.trans h2)
theorem va_RA.long {U : State} {c1 c2 : ClassId} (h1 : va_RA U c1 .long) (h2 : va_RA U c2 .long) : c1 = c2 := Option.some.inj (h1.symm.trans h2)
theorem u_newi {rf rl mc ms t0 : Nat} {cA : ClassId} {Wc : (Nat → Nat) → va_W} (hB : pq_B X b nL own) (hK : pq_KI X Y) (hR : pq_RI X Y rf rl mc ms Wc) (hca : Y.2.2[t0]? = some (cA, .int)) (h1 : Cond.arrayClass .int ∈ pq_G) {c : Int32} (N : Nat) (hn : ¬ c < 0) (hN : c.toNatClampNeg = N) (hb : N * 4 ≤ 536870912) (hcell : k + 1 ≤ mc) (hslot : n + N ≤ ms) (d : decode b pc = .ok (.newarray .int, 2)) (kk : ∀ q, pq_U X Y nL (pc + 2) L (ws ++ [(q, .inl (cA, N, .inl (fun _ => 0)))]) (k + 1) (n + N) (.ref q :: st)) : pq_U X Y nL pc L ws k n (.int c :: st) := fun ls H locs hl hP hD hS => va_newa (atype := .int) (ty := .int) (a0 := (N, .inl (fun _ => 0))) hB.1 hB.2.1 (hB.2.2.2.2 _ h1) rfl hK.1 hP hD hS hK.2.2.1 (fun cA => rfl) hn hN hb (by rw [hR.1]; exact hcell) (by rw [hR.1]; exact hslot) d (fun q cB H1 hK1 hP1 hD1 hS1 => by
  have e : cB = cA := va_RA.int (hK1.2 Y.2.2.length (cB, .int) (by simp)).2 (hK.1.2 t0 _ hca).2
  subst e
  exact kk q ls H1 locs hl hP1 hD1 hS1)
theorem u_newl {rf rl mc ms t0 : Nat} {cA : ClassId} {Wc : (Nat → Nat) → va_W} (hB : pq_B X b nL own) (hK : pq_KI X Y) (hR : pq_RI X Y rf rl mc ms Wc) (hca : Y.2.2[t0]? = some (cA, .long)) (h1 : Cond.arrayClass .long ∈ pq_G) {c : Int32} (N : Nat) (hn : ¬ c < 0) (hN : c.toNatClampNeg = N) (hb : N * 8 ≤ 536870912) (hcell : k + 1 ≤ mc) (hslot : n + N ≤ ms) (d : decode b pc = .ok (.newarray .long, 2)) (kk : ∀ q, pq_U X Y nL (pc + 2) L (ws ++ [(q, .inl (cA, N, .inr (.inl (fun _ => 0))))]) (k + 1) (n + N) (.ref q :: st)) : pq_U X Y nL pc L ws k n (.int c :: st) := fun ls H locs hl hP hD hS => va_newa (atype := .long) (ty := .long) (a0 := (N, .inr (.inl (fun _ => 0)))) hB.1 hB.2.1 (hB.2.2.2.2 _ h1) rfl hK.1 hP hD hS hK.2.2.1 (fun cA => rfl) hn hN hb (by rw [hR.1]; exact hcell) (by rw [hR.1]; exact hslot) d (fun q cB H1 hK1 hP1 hD1 hS1 => by
  have e : cB = cA := va_RA.long (hK1.2 Y.2.2.length (cB, .long) (by simp)).2 (hK.1.2 t0 _ hca).2
  subst e
  exact kk q ls H1 locs hl hP1 hD1 hS1)
theorem u_newq {rf rl mc ms t0 idx : Nat} {cA : ClassId} {Wc : (Nat → Nat) → va_W} (hB : pq_B X b nL own) (hK : pq_KI X Y) (hR : pq_RI X Y rf rl mc ms Wc) (hca : Y.2.2[t0]? = some (cA, .object "FormsAboveNought$Form")) (h1 : Cond.classLink own idx "FormsAboveNought$Form" ∈ pq_G) {c : Int32} (N : Nat) (hn : ¬ c < 0) (hN : c.toNatClampNeg = N) (hb : N * 4 ≤ 536870912) (hcell : k + 1 ≤ mc) (hslot : n + N ≤ ms) (d : decode b pc = .ok (.anewarray idx, 3)) (kk : ∀ q, pq_U X Y nL (pc + 3) L (ws ++ [(q, .inl (cA, N, .inr (.inr (.inr (.inr (fun _ => none))))))]) (k + 1) (n + N) (.ref q :: st)) : pq_U X Y nL pc L ws k n (.int c :: st) := fun ls H locs hl hP hD hS => va_newq hB.1 hB.2.1 hB.2.2.2.1 (hB.2.2.2.2 _ h1) hK.2.2.2.2.1 hK.1 hP hD hS hK.2.2.1 hn hN hb (by rw [hR.1]; exact hcell) (by rw [hR.1]; exact hslot) d (fun q cB H1 hK1 hP1 hD1 hS1 => by
  have e : cB = cA := by
    obtain ⟨-, -, -, -, -, h4⟩ := (hK1.2 Y.2.2.length (cB, .object "FormsAboveNought$Form") (by simp)).2
    obtain ⟨-, -, -, -, -, g4⟩ := (hK.1.2 t0 _ hca).2
    exact Option.some.inj (h4.symm.trans g4)
  subst e
  exact kk q ls H1 locs hl hP1 hD1 hS1)
/-- what stands in the first cell, its k-th field a final one -/
theorem u_putF {rf rl mc ms idx ci f : Nat} {Wc : (Nat → Nat) → va_W} {q0 : Nat} {fs : List Value} {B : va_W} {v : Value} {ty : FieldType} {C : String} {T : u_T} {N : Nat} (ty0 : Nat → FieldType) (hB : pq_B X b nL own) (hK : pq_KI X Y) (hR : pq_RI X Y rf rl mc ms Wc) (hc : Y.2.1[ci]? = some (C, T, N)) (hf : f < N) (hl1 : Cond.fieldLink own idx (T f).1 (T f).2.1 (T f).2.2.1 ∈ pq_G) (hin : ∀ w ∈ u_ws C T N, w ∈ pq_G) (hty : ∀ k, k < N → parseFieldDescriptor (T k).2.2.1 = some (ty0 k)) (hnm : ∀ a, a < N → ∀ b, b < N → a ≠ b → (T a).2.1 ≠ (T b).2.1) (hfin : (T f).2.2.2 = true) (hdec : (T f).1 = own) (he : ty0 f = ty) (hn : narrow ty v = v) (hfit : fits ty v = true) (hfl : f < fs.length) (d : decode b pc = .ok (.putfield idx, 3)) (kk : pq_U X Y nL (pc + 3) L ((q0, .inr (ci, fs.set f v)) :: B) k n st) : pq_U X Y nL pc L ((q0, .inr (ci, fs)) :: B) k n (v :: .ref q0 :: st) := fun ls H locs hl hP hD hS => va_putF hB.1 hB.2.1 hB.2.2.2.2 hin ty0 hty hnm hB.2.2.2.1 hK.1 hP hD hS 0 rfl hc f hf (hB.2.2.2.2 _ hl1) (fun _ z => z) hfin hR.2.2.2.1 hdec (ty := ty) (by rw [hty f hf, he]) hn hfit hfl d (fun H1 locs1 hP1 hD1 hS1 => kk ls H1 locs1 hl hP1 hD1 hS1)
theorem u_put {rf rl mc ms idx ci f : Nat} {Wc : (Nat → Nat) → va_W} {q0 : Nat} {fs : List Value} {B : va_W} {v : Value} {ty : FieldType} {C : String} {T : u_T} {N : Nat} (ty0 : Nat → FieldType) (hB : pq_B X b nL own) (hK : pq_KI X Y) (hR : pq_RI X Y rf rl mc ms Wc) (hc : Y.2.1[ci]? = some (C, T, N)) (hf : f < N) (hl1 : Cond.fieldLink own idx (T f).1 (T f).2.1 (T f).2.2.1 ∈ pq_G) (hin : ∀ w ∈ u_ws C T N, w ∈ pq_G) (hty : ∀ k, k < N → parseFieldDescriptor (T k).2.2.1 = some (ty0 k)) (hnm : ∀ a, a < N → ∀ b, b < N → a ≠ b → (T a).2.1 ≠ (T b).2.1) (hfin : (T f).2.2.2 = false) (he : ty0 f = ty) (hn : narrow ty v = v) (hfit : fits ty v = true) (hfl : f < fs.length) (d : decode b pc = .ok (.putfield idx, 3)) (kk : pq_U X Y nL (pc + 3) L ((q0, .inr (ci, fs.set f v)) :: B) k n st) : pq_U X Y nL pc L ((q0, .inr (ci, fs)) :: B) k n (v :: .ref q0 :: st) := fun ls H locs hl hP hD hS => va_put hB.1 hB.2.1 hB.2.2.2.2 hin ty0 hty hnm hB.2.2.2.1 hK.1 hP hD hS 0 rfl hc f hf (hB.2.2.2.2 _ hl1) (fun _ z => z) hfin (ty := ty) (by rw [hty f hf, he]) hn hfit hfl d (fun H1 locs1 hP1 hD1 hS1 => kk ls H1 locs1 hl hP1 hD1 hS1)
theorem u_get {idx ci f : Nat} {q0 : Nat} {fs : List Value} {B : va_W} {v : Value} {C : String} {T : u_T} {N : Nat} (hB : pq_B X b nL own) (hK : pq_KI X Y) (hc : Y.2.1[ci]? = some (C, T, N)) (hf : f < N) (hl1 : Cond.fieldLink own idx (T f).1 (T f).2.1 (T f).2.2.1 ∈ pq_G) (hin : ∀ w ∈ u_ws C T N, w ∈ pq_G) (hv : fs[f]? = some v) (d : decode b pc = .ok (.getfield idx, 3)) (kk : pq_U X Y nL (pc + 3) L ((q0, .inr (ci, fs)) :: B) k n (v :: st)) : pq_U X Y nL pc L ((q0, .inr (ci, fs)) :: B) k n (.ref q0 :: st) := fun ls H locs hl hP hD hS => va_get hB.1 hB.2.1 hB.2.2.2.2 hin hB.2.2.2.1 hK.1 hP 0 rfl hc f hf (hB.2.2.2.2 _ hl1) (fun _ z => z) hv d (kk ls H locs hl hP hD hS)
theorem u_iast {t0 a : Nat} (p : Nat) {cA : ClassId} {N : Nat} {f : Nat → Int32} {i v : Int32} (hB : pq_B X b nL own) (hK : pq_KI X Y) (hca : Y.2.2[t0]? = some (cA, .int)) (hp : ws[p]? = some (a, .inl (cA, N, .inl f))) (hi : vp_in i N) (d : decode b pc = .ok (.iastore, 1)) (kk : pq_U X Y nL (pc + 1) L (ws.set p (a, .inl (cA, N, .inl (upd f i.toNatClampNeg v)))) k n st) : pq_U X Y nL pc L ws k n (.int v :: .int i :: .ref a :: st) := fun ls H locs hl hP hD hS => va_iast hB.1 hB.2.1 hK.1 hP hD hS p t0 hp hca hi d (fun H1 locs1 hP1 hD1 hS1 => kk ls H1 locs1 hl hP1 hD1 hS1)
theorem u_astq {t0 a v ci : Nat} (p pv : Nat) {cA : ClassId} {r : vw_C} {N : Nat} {f : Nat → Option Nat} {vs : List Value} {i : Int32} (hB : pq_B X b nL own) (hK : pq_KI X Y) (hca : Y.2.2[t0]? = some (cA, .object r.1)) (hp : ws[p]? = some (a, .inl (cA, N, .inr (.inr (.inr (.inr f)))))) (hv : ws[pv]? = some (v, .inr (ci, vs))) (hc : Y.2.1[ci]? = some r) (hi : vp_in i N) (d : decode b pc = .ok (.aastore, 1)) (kk : pq_U X Y nL (pc + 1) L (ws.set p (a, .inl (cA, N, .inr (.inr (.inr (.inr (va_up f i.toNatClampNeg (some v)))))))) k n st) : pq_U X Y nL pc L ws k n (.ref v :: .int i :: .ref a :: st) := fun ls H locs hl hP hD hS => va_astq hB.1 hB.2.1 hK.1 hP hD hS p t0 pv ci hp hca hv hc hi d (fun H1 locs1 hP1 hD1 hS1 => kk ls H1 locs1 hl hP1 hD1 hS1)
/-- a part of the world, in another order -/
theorem u_sub {ws' : va_W} (is : List Nat) (h1 : is.filterMap (fun i => ws[i]?) = ws') (h2 : va_nd is = true) (h3 : is.map (fun i => ws[i]?) = ws'.map some) (kk : pq_U X Y nL pc L ws' k n st) : pq_U X Y nL pc L ws k n st := fun ls H locs hl hP hD hS => kk ls H locs hl (hP.sub is h1) (hD.sub is h2 h3) hS
theorem u_eq {ws' : va_W} (h1 : ws = ws') (kk : pq_U X Y nL pc L ws' k n st) : pq_U X Y nL pc L ws k n st := h1 ▸ kk
/-- the constructor of the last cell -/
theorem u_join {D : va_G} {cl : List vw_C} {A0 : Nat → Prop} {pre : va_W} {q : Nat} {e : va_E} {w1 : va_W} {H H1 : Heap} {H0 : Heap} {locs : List Loc} (hP : va_P D cl (pre ++ [(q, e)]) H) (hD : va_D A0 (pre ++ [(q, e)])) (hS : va_S A0 H0 H locs) (hA : ∀ q, H0.size ≤ q → A0 q) (hk : ∀ x : Nat, x < H.size → ¬ va_A [(q, e)] H.size x → H1[x]? = H[x]?) (hP1 : va_P D cl w1 H1) (hD1 : va_D (va_A [(q, e)] H.size) w1) : va_P D cl (pre ++ w1) H1 ∧ va_D A0 (pre ++ w1) := by
  have hC : [pre.length].map (fun i => (pre ++ [(q, e)])[i]?) = [(q, e)].map some := by simp
  have hRr : (List.range pre.length).map (fun i => (pre ++ [(q, e)])[i]?) = pre.map some := by
    apply List.ext_getElem?
    intro i
    rw [List.getElem?_map, List.getElem?_map]
    by_cases hi : i < pre.length
    · rw [List.getElem?_range hi, List.getElem?_eq_getElem hi]
      simp [List.getElem?_append_left hi, List.getElem?_eq_getElem hi]
    · rw [List.getElem?_eq_none (by simpa using hi), List.getElem?_eq_none (by omega)]
      rfl
  have hnd : ∀ m, va_nd (List.range' m pre.length) = true := by
    generalize pre.length = z
    induction z with
    | zero => intro m; rfl
    | succ z ih =>
      intro m
      rw [List.range'_succ]
      simp only [va_nd, Bool.and_eq_true, decide_eq_true_eq]
      exact ⟨fun h => by have := (List.mem_range'_1.mp h).1; omega, ih (m + 1)⟩
  exact va_join (wr := pre) (w1 := w1) hP hD [pre.length] (List.range pre.length) hC hRr (by rw [List.range_eq_range']; exact hnd 0) (fun i hi h => by have := List.mem_range.mp hi; have := List.mem_singleton.mp h; omega) hk (va_free hD hS hA [pre.length] hC) hP1 hD1
theorem u_free {A0 : Nat → Prop} {pre : va_W} {q : Nat} {e : va_E} {H H0 : Heap} {locs : List Loc} (hD : va_D A0 (pre ++ [(q, e)])) (hS : va_S A0 H0 H locs) (hA : ∀ q, H0.size ≤ q → A0 q) : ∀ x, va_A [(q, e)] H.size x → A0 x := va_free hD hS hA [pre.length] (by simp)
theorem u_callG {y : MethodName} {bb : ByteArray} {nn idx rf rl mc ms RF RL MC MS : Nat} {Wc W0 : (Nat → Nat) → va_W} {q : Nat} {e : va_E} {pre : va_W} (hK : pq_KI X Y) (hrun : ∀ (ls : Array Slot) (H : Heap) (locs : List Loc), lv_has ls nL L → va_P Y.1 Y.2.1 (pre ++ [(q, e)]) H → va_D X.2.2.2.1 (pre ++ [(q, e)]) → va_S X.2.2.2.1 X.2.2.2.2 H locs → va_Run X.1.1 X.1.2.1 X.1.2.2.1 X.1.2.2.2.1 X.1.2.2.2.2 X.2.1.1 X.2.1.2.1 X.2.1.2.2.1 X.2.1.2.2.2.1 X.2.1.2.2.2.2 H locs k n mc ms (F0 X.2.1.1 pc ls (.ref q :: st)) st (pq_Q2 Y (va_A [(q, e)] H.size) Wc #[Value.ref q]) (va_A [(q, e)] H.size)) (kk : ∀ a, pq_U X Y nL (pc + 3) L (pre ++ Wc a) (k + mc) (n + ms) st) : pq_U X Y nL pc L (pre ++ [(q, e)]) k n (.ref q :: st) := by
  intro ls H locs hl hP hD hS T hT Xs
  obtain ⟨v, st₀, t, T', L1, h0, X', hL, e1, e2, ⟨⟨hv, a, hP1, hD1⟩, hz, hk⟩, hst⟩ := hrun ls H locs hl hP hD hS T hT Xs
  cases hv
  rw [h0] at hz hk
  have hfr := u_free hD hS hK.2.2.1
  obtain ⟨hP2, hD2⟩ := u_join (H1 := T'.heap) hP hD hS hK.2.2.1 (fun x h1 h2 => by rw [e1]; exact hk x h1 h2) (by rw [e1]; exact hP1) hD1
  obtain ⟨t2, a1, b1⟩ := kk a ls T'.heap (locs ++ L1) hl hP2 hD2 ⟨Nat.le_trans hS.1 (by rw [e1]; exact hz), fun x h1 h2 => by rw [e1, hk x (Nat.lt_of_lt_of_le h1 hS.1) (fun z => h2 (hfr x z))]; exact hS.2.1 x h1 h2, fun x hx => by
      rcases List.mem_append.mp hx with h | h
      · exact hS.2.2 x h
      · exact hfr _ (hL x h)⟩ T' rfl X'
  exact ⟨t2, hst t2 a1, b1⟩
theorem u_pre {q : Nat} {e : va_E} {pre : va_W} {H : Heap} {locs : List Loc} (hK : pq_KI X Y) (hP : va_P Y.1 Y.2.1 (pre ++ [(q, e)]) H) (U : State) (hU : U.heap = H) (hW : X.1.2.2.2.2.WarmedH U.vm) : va_Pc [.ref q] (fun U => U.heap.size = H.size ∧ va_P Y.1 Y.2.1 [(q, e)] U.heap ∧ va_K Y.1 Y.2.1 Y.2.2 U ∧ envI U) (Value.ref q :: []).toArray U := ⟨rfl, by rw [hU], by rw [hU]; exact hP.sub [pre.length] (by simp), va_K.moved hW.alike hK.1, envI.warm hW hK.2.2.2⟩
theorem u_blind {q : Nat} {e : va_E} {sz : Nat} : FrameBlind (va_Pc [.ref q] (fun U => U.heap.size = sz ∧ va_P Y.1 Y.2.1 [(q, e)] U.heap ∧ va_K Y.1 Y.2.1 Y.2.2 U ∧ envI U)) := fun a U g mk z => ⟨z.1, z.2.1, z.2.2.1, va_K.moved (u := U) (U := U.calling g mk a) (Vm.Alike.refl U.vm) z.2.2.2.1, envI.warm (s := U) (State.WarmedH.refl U) z.2.2.2.2⟩
theorem u_call {y : MethodName} {bb : ByteArray} {nn idx rf rl mc ms RF RL MC MS : Nat} {Wc W0 : (Nat → Nat) → va_W} {q : Nat} {e : va_E} {pre : va_W} (hB : pq_B X b nL own) (hK : pq_KI X Y) (hR : pq_RI X Y RF RL MC MS W0) (lk : pq_LB y bb nn none 0) (hn : y.name = "<init>") (lv : Cond.methodLink own idx y ∈ pq_G ∧ Cond.instanceMethod y ∈ pq_G) (hM : pq_N Y X.1.2.1 y bb nn rf rl mc ms q e Wc) (d : decode b pc = .ok (.invokespecial idx, 3)) (hW : (st.map fun v => v.category).sum ≤ 8) (hr : rf + 1 ≤ RF) (hr2 : 8 + (nn + 11) + rl ≤ RL) (hc : k + mc ≤ MC) (hs : n + ms ≤ MS) (kk : ∀ a, pq_U X Y nL (pc + 3) L (pre ++ Wc a) (k + mc) (n + ms) st) : pq_U X Y nL pc L (pre ++ [(q, e)]) k n (.ref q :: st) := by
  refine u_callG (y := y) (bb := bb) (nn := nn) (idx := idx) (rf := rf) (rl := rl) (RF := RF) (RL := RL) (MC := MC) (MS := MS) (W0 := W0) hK (fun ls H locs hl hP hD hS => ?_) kk
  have hB2 : pq_Rm X RF RL := ⟨by rw [hR.1]; exact Nat.le_refl _, by rw [hR.1]; exact Nat.le_refl _⟩
  obtain ⟨l1, l2, l3, l4, l5⟩ := lk
  exact va_runI (As := []) (rest := st) ⟨hB.1, hB.2.1, hB.2.2.1, hB.2.2.2.1, hB.2.2.2.2⟩ (hM H.size) ⟨callB_of (Ts := pq_G) (ws' := pq_G) 0 hB.2.2.2.2 (pq_goodIn l2 (fun w hw => hw)) rfl rfl rfl (hB.2.2.2.2 _ l1) (hB.2.2.2.2 _ lv.1) ⟨l3, l4, l5⟩ ⟨Nat.le_trans hr hB2.1, Nat.le_trans hr2 hB2.2⟩, hn, hB.2.2.2.2 _ lv.2⟩ ⟨u_blind, fun U hU hW2 => u_pre (locs := locs) hK hP U hU hW2⟩ rfl rfl hl.1 rfl (lv_room hW) d ⟨by rw [hR.1]; exact hc, by rw [hR.1]; exact hs⟩
theorem u_callN {y : MethodName} {bb : ByteArray} {nn idx rf rl mc ms RF RL MC MS : Nat} {host : String} {Wc W0 : (Nat → Nat) → va_W} {q : Nat} {e : va_E} {pre : va_W} (hB : pq_B X b nL own) (hK : pq_KI X Y) (hR : pq_RI X Y RF RL MC MS W0) (lk : pq_LB y bb nn none 0) (hn : y.name = "<init>") (hN : va_Nw (Cond.methodLinkNest own idx y host) X.1.2.2.2.2) (lv : Cond.instanceMethod y ∈ pq_G) (hM : pq_N Y X.1.2.1 y bb nn rf rl mc ms q e Wc) (d : decode b pc = .ok (.invokespecial idx, 3)) (hW : (st.map fun v => v.category).sum ≤ 8) (hr : rf + 1 ≤ RF) (hr2 : 8 + (nn + 11) + rl ≤ RL) (hc : k + mc ≤ MC) (hs : n + ms ≤ MS) (kk : ∀ a, pq_U X Y nL (pc + 3) L (pre ++ Wc a) (k + mc) (n + ms) st) : pq_U X Y nL pc L (pre ++ [(q, e)]) k n (.ref q :: st) := by
  refine u_callG (y := y) (bb := bb) (nn := nn) (idx := idx) (rf := rf) (rl := rl) (RF := RF) (RL := RL) (MC := MC) (MS := MS) (W0 := W0) hK (fun ls H locs hl hP hD hS => ?_) kk
  have hB2 : pq_Rm X RF RL := ⟨by rw [hR.1]; exact Nat.le_refl _, by rw [hR.1]; exact Nat.le_refl _⟩
  have lk2 := lk
  obtain ⟨l1, l2, l3, l4, l5⟩ := lk
  refine va_runIN (host := host) (As := []) (rest := st) ⟨hB.1, hB.2.1, hB.2.2.1, hB.2.2.2.1, hB.2.2.2.2⟩ (hM H.size) ⟨⟨⟨rfl, rfl, Nat.le_trans hr hB2.1, Nat.le_trans hr2 hB2.2, pay_in hB.2.2.2.2 (pq_goodIn l2 (fun w hw => hw)), List.mem_cons_self⟩, hB.2.2.2.2 _ l2, hB.2.2.2.2 _ l1, ⟨l3, l4⟩, fun sig hs2 => ?_, va_Nw.use rfl hN⟩, hn, hB.2.2.2.2 _ lv⟩ ⟨u_blind, fun U hU hW2 => u_pre (locs := locs) hK hP U hU hW2⟩ rfl rfl hl.1 rfl (lv_room hW) d ⟨by rw [hR.1]; exact hc, by rw [hR.1]; exact hs⟩
  rw [hs2] at l5
  exact (Option.some.inj l5).symm
theorem u_vret {rf rl mc ms : Nat} {Wc : (Nat → Nat) → va_W} (a : Nat → Nat) (hB : pq_B X b nL own) (hK : pq_KI X Y) (hR : pq_RI X Y rf rl mc ms Wc) (hw : ws = Wc a) (hc : k ≤ mc) (hs : n ≤ ms) (d : decode b pc = .ok (.return_, 1)) : pq_U X Y nL pc L ws k n [] := fun ls H locs hl hP hD hS => by
  refine W.widen hc hs ?_
  obtain ⟨-, h2, h3, -, h5⟩ := hR
  rw [h5]
  have hS1 := hS
  rw [hK.2.1] at hS1
  subst hw
  exact W.vret hB.1 hB.2.1 h2 (fun t ht hW => ⟨⟨rfl, a, by rw [ht]; exact hP, hD⟩, hS1.F ht⟩) hS.2.2 d h3
theorem u_mna {rf rl mc ms idx t0 : Nat} {cA cy : ClassId} {ty : FieldType} {z : vp_A} {Wc : (Nat → Nat) → va_W} (N K : Nat) (hB : pq_B X b nL own) (hK : pq_KI X Y) (hR : pq_RI X Y rf rl mc ms Wc) (hca : Y.2.2[t0]? = some (cA, .array ty)) (hcy : X.1.2.2.2.2.vm.findClass (FieldType.array ty).toString = some cy) (hov : va_AOA ty X.1.2.2.2.2) (h1 : Cond.classLink own idx ("[" ++ (FieldType.array ty).toString) ∈ pq_G) (h2 : Cond.arrayClass ty ∈ pq_G) {c1 c2 : Int32} (hn : ¬ c1 < 0) (hk : ¬ c2 < 0) (hN : c1.toNatClampNeg = N) (hM : c2.toNatClampNeg = K) (hb1 : N * 4 ≤ 536870912) (hb2 : K * componentBytes ty ≤ 536870912) (hb3 : K ≤ 536870912) (hdf : fits ty (defaultValue ty) = true) (hdd : (defaultValue ty).isDefault = true) (hz : ∀ c : ClassId, Jvm.Free.Multi.innerC c K (defaultValue ty) = vp_cell c z) (hcell : k + (1 + N) ≤ mc) (hslot : n + (N + N * K) ≤ ms) (hnA : ∀ (U : State) (c1 c2 : ClassId), va_RA U c1 (.array ty) → va_RA U c2 (.array ty) → c1 = c2) (d : decode b pc = .ok (.multianewarray idx 2, 4)) (kk : ∀ (q : Nat) (r : Nat → Nat), pq_U X Y nL (pc + 4) L ((ws ++ [(q, .inl (cA, N, .inr (.inr (.inr (.inr (fun i => if i < N then some (r i) else none))))))]) ++ (List.range N).map (fun i => (r i, .inl (cy, z)))) (k + 1 + N) (n + N + N * K) (.ref q :: st)) : pq_U X Y nL pc L ws k n (.int c2 :: .int c1 :: st) := fun ls H locs hl hP hD hS => by
  have e0 : ws ++ va_pl [] (fun _ => (.inl (cy, z) : va_E)) = ws := by simp [va_pl]
  refine va_mna (X := ws) (L := []) (f := fun _ => .inl (cy, z)) (N' := N) (K' := K) (z := z) (cy := cy) hB.1 hB.2.1 hB.2.2.2.1 (hB.2.2.2.2 _ h1) hov (hB.2.2.2.2 _ h2) hcy hK.1 (by rw [e0]; exact hP) (by rw [e0]; exact hD) hS hK.2.2.1 hn hk hN hM hb1 hb2 hb3 hdf hdd (by rw [hR.1]; exact hcell) (by rw [hR.1]; exact hslot) hz d (fun q r cB H1 _ _ hK1 hP1 hD1 hS1 => ?_)
  have e : cB = cA := hnA _ _ _ (hK1.2 Y.2.2.length (cB, .array ty) (by simp)).2 (hK.1.2 t0 _ hca).2
  subst e
  have e1 : va_pl ([] ++ (List.range N).map r) (vr_up (fun _ => (.inl (cy, z) : va_E)) ((List.range N).map r) (.inl (cy, z))) = (List.range N).map (fun i => (r i, .inl (cy, z))) := by
    unfold va_pl
    rw [List.nil_append, List.map_map]
    apply List.map_congr_left
    intro i _
    show (r i, vr_up _ _ _ (r i)) = _
    unfold vr_up
    split <;> rfl
  rw [e1] at hP1 hD1
  exact kk q r ls H1 locs hl hP1 hD1 hS1
/-- the same rows for a world whose first cells stand in view, the rest T is not looked into -/
theorem h_new {x : Nat × va_E} {T' : va_W} {rf rl mc ms idx ci N : Nat} {Wc : (Nat → Nat) → va_W} {C : String} {T : u_T} (fs : List Value) (ty : Nat → FieldType) (hB : pq_B X b nL own) (hK : pq_KI X Y) (hR : pq_RI X Y rf rl mc ms Wc) (hc : Y.2.1[ci]? = some (C, T, N)) (hin : ∀ w ∈ u_ws C T N, w ∈ pq_G) (hty : ∀ k, k < N → parseFieldDescriptor (T k).2.2.1 = some (ty k)) (h1 : Cond.classLink own idx C ∈ pq_G) (h2 : Cond.instantiable C N ∈ pq_G) (h3 : Cond.initialized C ∈ pq_G) (hfs : ∀ j, j < N → defaultValue (ty j) = vp_V fs j) (hcell : k + 1 ≤ mc) (hslot : n + N ≤ ms) (d : decode b pc = .ok (.new idx, 3)) (kk : ∀ q, pq_U X Y nL (pc + 3) L (x :: (T' ++ [(q, .inr (ci, fs))])) (k + 1) (n + N) (.ref q :: st)) : pq_U X Y nL pc L (x :: T') k n st := u_new (ws := x :: T') fs ty hB hK hR hc hin hty h1 h2 h3 hfs hcell hslot d kk
theorem h_newi {x : Nat × va_E} {T' : va_W} {rf rl mc ms t0 : Nat} {cA : ClassId} {Wc : (Nat → Nat) → va_W} (hB : pq_B X b nL own) (hK : pq_KI X Y) (hR : pq_RI X Y rf rl mc ms Wc) (hca : Y.2.2[t0]? = some (cA, .int)) (h1 : Cond.arrayClass .int ∈ pq_G) {c : Int32} (N : Nat) (hn : ¬ c < 0) (hN : c.toNatClampNeg = N) (hb : N * 4 ≤ 536870912) (hcell : k + 1 ≤ mc) (hslot : n + N ≤ ms) (d : decode b pc = .ok (.newarray .int, 2)) (kk : ∀ q, pq_U X Y nL (pc + 2) L (x :: (T' ++ [(q, .inl (cA, N, .inl (fun _ => 0)))])) (k + 1) (n + N) (.ref q :: st)) : pq_U X Y nL pc L (x :: T') k n (.int c :: st) := u_newi (ws := x :: T') hB hK hR hca h1 N hn hN hb hcell hslot d kk
theorem h_newl {x : Nat × va_E} {T' : va_W} {rf rl mc ms t0 : Nat} {cA : ClassId} {Wc : (Nat → Nat) → va_W} (hB : pq_B X b nL own) (hK : pq_KI X Y) (hR : pq_RI X Y rf rl mc ms Wc) (hca : Y.2.2[t0]? = some (cA, .long)) (h1 : Cond.arrayClass .long ∈ pq_G) {c : Int32} (N : Nat) (hn : ¬ c < 0) (hN : c.toNatClampNeg = N) (hb : N * 8 ≤ 536870912) (hcell : k + 1 ≤ mc) (hslot : n + N ≤ ms) (d : decode b pc = .ok (.newarray .long, 2)) (kk : ∀ q, pq_U X Y nL (pc + 2) L (x :: (T' ++ [(q, .inl (cA, N, .inr (.inl (fun _ => 0))))])) (k + 1) (n + N) (.ref q :: st)) : pq_U X Y nL pc L (x :: T') k n (.int c :: st) := u_newl (ws := x :: T') hB hK hR hca h1 N hn hN hb hcell hslot d kk
theorem h_newq {x : Nat × va_E} {T' : va_W} {rf rl mc ms t0 idx : Nat} {cA : ClassId} {Wc : (Nat → Nat) → va_W} (hB : pq_B X b nL own) (hK : pq_KI X Y) (hR : pq_RI X Y rf rl mc ms Wc) (hca : Y.2.2[t0]? = some (cA, .object "FormsAboveNought$Form")) (h1 : Cond.classLink own idx "FormsAboveNought$Form" ∈ pq_G) {c : Int32} (N : Nat) (hn : ¬ c < 0) (hN : c.toNatClampNeg = N) (hb : N * 4 ≤ 536870912) (hcell : k + 1 ≤ mc) (hslot : n + N ≤ ms) (d : decode b pc = .ok (.anewarray idx, 3)) (kk : ∀ q, pq_U X Y nL (pc + 3) L (x :: (T' ++ [(q, .inl (cA, N, .inr (.inr (.inr (.inr (fun _ => none))))))])) (k + 1) (n + N) (.ref q :: st)) : pq_U X Y nL pc L (x :: T') k n (.int c :: st) := u_newq (ws := x :: T') hB hK hR hca h1 N hn hN hb hcell hslot d kk
theorem h_mna {x : Nat × va_E} {T' : va_W} {rf rl mc ms idx t0 : Nat} {cA cy : ClassId} {ty : FieldType} {z : vp_A} {Wc : (Nat → Nat) → va_W} (N K : Nat) (hB : pq_B X b nL own) (hK : pq_KI X Y) (hR : pq_RI X Y rf rl mc ms Wc) (hca : Y.2.2[t0]? = some (cA, .array ty)) (hcy : X.1.2.2.2.2.vm.findClass (FieldType.array ty).toString = some cy) (hov : va_AOA ty X.1.2.2.2.2) (h1 : Cond.classLink own idx ("[" ++ (FieldType.array ty).toString) ∈ pq_G) (h2 : Cond.arrayClass ty ∈ pq_G) {c1 c2 : Int32} (hn : ¬ c1 < 0) (hk : ¬ c2 < 0) (hN : c1.toNatClampNeg = N) (hM : c2.toNatClampNeg = K) (hb1 : N * 4 ≤ 536870912) (hb2 : K * componentBytes ty ≤ 536870912) (hb3 : K ≤ 536870912) (hdf : fits ty (defaultValue ty) = true) (hdd : (defaultValue ty).isDefault = true) (hz : ∀ c : ClassId, Jvm.Free.Multi.innerC c K (defaultValue ty) = vp_cell c z) (hcell : k + (1 + N) ≤ mc) (hslot : n + (N + N * K) ≤ ms) (hnA : ∀ (U : State) (c1 c2 : ClassId), va_RA U c1 (.array ty) → va_RA U c2 (.array ty) → c1 = c2) (d : decode b pc = .ok (.multianewarray idx 2, 4)) (kk : ∀ (q : Nat) (r : Nat → Nat), pq_U X Y nL (pc + 4) L (x :: ((T' ++ [(q, .inl (cA, N, .inr (.inr (.inr (.inr (fun i => if i < N then some (r i) else none))))))]) ++ (List.range N).map (fun i => (r i, .inl (cy, z))))) (k + 1 + N) (n + N + N * K) (.ref q :: st)) : pq_U X Y nL pc L (x :: T') k n (.int c2 :: .int c1 :: st) := u_mna (ws := x :: T') N K hB hK hR hca hcy hov h1 h2 hn hk hN hM hb1 hb2 hb3 hdf hdd hz hcell hslot hnA d kk
theorem h_callN {x : Nat × va_E} {T' : va_W} {y : MethodName} {bb : ByteArray} {nn idx rf rl mc ms RF RL MC MS : Nat} {host : String} {Wc W0 : (Nat → Nat) → va_W} {q : Nat} {e : va_E} (hB : pq_B X b nL own) (hK : pq_KI X Y) (hR : pq_RI X Y RF RL MC MS W0) (lk : pq_LB y bb nn none 0) (hn : y.name = "<init>") (hN : va_Nw (Cond.methodLinkNest own idx y host) X.1.2.2.2.2) (lv : Cond.instanceMethod y ∈ pq_G) (hM : pq_N Y X.1.2.1 y bb nn rf rl mc ms q e Wc) (d : decode b pc = .ok (.invokespecial idx, 3)) (hW : (st.map fun v => v.category).sum ≤ 8) (hr : rf + 1 ≤ RF) (hr2 : 8 + (nn + 11) + rl ≤ RL) (hc : k + mc ≤ MC) (hs : n + ms ≤ MS) (kk : ∀ a, pq_U X Y nL (pc + 3) L (x :: (T' ++ Wc a)) (k + mc) (n + ms) st) : pq_U X Y nL pc L (x :: (T' ++ [(q, e)])) k n (.ref q :: st) := u_callN (pre := x :: T') hB hK hR lk hn hN lv hM d hW hr hr2 hc hs kk
theorem h_call {x : Nat × va_E} {T' : va_W} {y : MethodName} {bb : ByteArray} {nn idx rf rl mc ms RF RL MC MS : Nat} {Wc W0 : (Nat → Nat) → va_W} {q : Nat} {e : va_E} (hB : pq_B X b nL own) (hK : pq_KI X Y) (hR : pq_RI X Y RF RL MC MS W0) (lk : pq_LB y bb nn none 0) (hn : y.name = "<init>") (lv : Cond.methodLink own idx y ∈ pq_G ∧ Cond.instanceMethod y ∈ pq_G) (hM : pq_N Y X.1.2.1 y bb nn rf rl mc ms q e Wc) (d : decode b pc = .ok (.invokespecial idx, 3)) (hW : (st.map fun v => v.category).sum ≤ 8) (hr : rf + 1 ≤ RF) (hr2 : 8 + (nn + 11) + rl ≤ RL) (hc : k + mc ≤ MC) (hs : n + ms ≤ MS) (kk : ∀ a, pq_U X Y nL (pc + 3) L (x :: (T' ++ Wc a)) (k + mc) (n + ms) st) : pq_U X Y nL pc L (x :: (T' ++ [(q, e)])) k n (.ref q :: st) := u_call (pre := x :: T') hB hK hR lk hn lv hM d hW hr hr2 hc hs kk
theorem h_iast {x : Nat × va_E} {T' : va_W} {t0 a : Nat} {cA : ClassId} {N : Nat} {f : Nat → Int32} {i v : Int32} (hB : pq_B X b nL own) (hK : pq_KI X Y) (hca : Y.2.2[t0]? = some (cA, .int)) (hi : vp_in i N) (d : decode b pc = .ok (.iastore, 1)) (kk : pq_U X Y nL (pc + 1) L (x :: (T' ++ [(a, .inl (cA, N, .inl (upd f i.toNatClampNeg v)))])) k n st) : pq_U X Y nL pc L (x :: (T' ++ [(a, .inl (cA, N, .inl f))])) k n (.int v :: .int i :: .ref a :: st) := by
  refine u_iast (t0 := t0) (cA := cA) (N := N) (f := f) (T'.length + 1) hB hK hca (by simp) hi d ?_
  have e : (x :: (T' ++ [(a, (.inl (cA, N, .inl f) : va_E))])).set (T'.length + 1) (a, .inl (cA, N, .inl (upd f i.toNatClampNeg v))) = x :: (T' ++ [(a, .inl (cA, N, .inl (upd f i.toNatClampNeg v)))]) := by simp [List.set_append]
  rw [e]
  exact kk
/-- a new object into the second, the third cell, an array of references -/
theorem h_ast1 {x z : Nat × va_E} {T' Rr Wv : va_W} {t0 a v ci : Nat} {cA : ClassId} {r : vw_C} {N : Nat} {f : Nat → Option Nat} {vs : List Value} {i : Int32} (hB : pq_B X b nL own) (hK : pq_KI X Y) (hca : Y.2.2[t0]? = some (cA, .object r.1)) (hw : Wv = (v, .inr (ci, vs)) :: Rr) (hc : Y.2.1[ci]? = some r) (hi : vp_in i N) (d : decode b pc = .ok (.aastore, 1)) (kk : pq_U X Y nL (pc + 1) L (x :: (a, .inl (cA, N, .inr (.inr (.inr (.inr (va_up f i.toNatClampNeg (some v))))))) :: z :: (T' ++ Wv)) k n st) : pq_U X Y nL pc L (x :: (a, .inl (cA, N, .inr (.inr (.inr (.inr f))))) :: z :: (T' ++ Wv)) k n (.ref v :: .int i :: .ref a :: st) := by
  subst hw
  exact u_astq (t0 := t0) (r := r) (vs := vs) 1 (T'.length + 3) hB hK hca rfl (by simp) hc hi d kk
theorem h_ast2 {x y : Nat × va_E} {T' Rr Wv : va_W} {t0 a v ci : Nat} {cA : ClassId} {r : vw_C} {N : Nat} {f : Nat → Option Nat} {vs : List Value} {i : Int32} (hB : pq_B X b nL own) (hK : pq_KI X Y) (hca : Y.2.2[t0]? = some (cA, .object r.1)) (hw : Wv = (v, .inr (ci, vs)) :: Rr) (hc : Y.2.1[ci]? = some r) (hi : vp_in i N) (d : decode b pc = .ok (.aastore, 1)) (kk : pq_U X Y nL (pc + 1) L (x :: y :: (a, .inl (cA, N, .inr (.inr (.inr (.inr (va_up f i.toNatClampNeg (some v))))))) :: (T' ++ Wv)) k n st) : pq_U X Y nL pc L (x :: y :: (a, .inl (cA, N, .inr (.inr (.inr (.inr f))))) :: (T' ++ Wv)) k n (.ref v :: .int i :: .ref a :: st) := by
  subst hw
  exact u_astq (t0 := t0) (r := r) (vs := vs) 2 (T'.length + 3) hB hK hca rfl (by simp) hc hi d kk
theorem h3_new {x y z : Nat × va_E} {T' : va_W} {rf rl mc ms idx ci N : Nat} {Wc : (Nat → Nat) → va_W} {C : String} {T : u_T} (fs : List Value) (ty : Nat → FieldType) (hB : pq_B X b nL own) (hK : pq_KI X Y) (hR : pq_RI X Y rf rl mc ms Wc) (hc : Y.2.1[ci]? = some (C, T, N)) (hin : ∀ w ∈ u_ws C T N, w ∈ pq_G) (hty : ∀ k, k < N → parseFieldDescriptor (T k).2.2.1 = some (ty k)) (h1 : Cond.classLink own idx C ∈ pq_G) (h2 : Cond.instantiable C N ∈ pq_G) (h3 : Cond.initialized C ∈ pq_G) (hfs : ∀ j, j < N → defaultValue (ty j) = vp_V fs j) (hcell : k + 1 ≤ mc) (hslot : n + N ≤ ms) (d : decode b pc = .ok (.new idx, 3)) (kk : ∀ q, pq_U X Y nL (pc + 3) L (x :: y :: z :: (T' ++ [(q, .inr (ci, fs))])) (k + 1) (n + N) (.ref q :: st)) : pq_U X Y nL pc L (x :: y :: z :: T') k n st := u_new (ws := x :: y :: z :: T') fs ty hB hK hR hc hin hty h1 h2 h3 hfs hcell hslot d kk
theorem h3_callN {x y' z : Nat × va_E} {T' : va_W} {y : MethodName} {bb : ByteArray} {nn idx rf rl mc ms RF RL MC MS : Nat} {host : String} {Wc W0 : (Nat → Nat) → va_W} {q : Nat} {e : va_E} (hB : pq_B X b nL own) (hK : pq_KI X Y) (hR : pq_RI X Y RF RL MC MS W0) (lk : pq_LB y bb nn none 0) (hn : y.name = "<init>") (hN : va_Nw (Cond.methodLinkNest own idx y host) X.1.2.2.2.2) (lv : Cond.instanceMethod y ∈ pq_G) (hM : pq_N Y X.1.2.1 y bb nn rf rl mc ms q e Wc) (d : decode b pc = .ok (.invokespecial idx, 3)) (hW : (st.map fun v => v.category).sum ≤ 8) (hr : rf + 1 ≤ RF) (hr2 : 8 + (nn + 11) + rl ≤ RL) (hc : k + mc ≤ MC) (hs : n + ms ≤ MS) (kk : ∀ a, pq_U X Y nL (pc + 3) L (x :: y' :: z :: (T' ++ Wc a)) (k + mc) (n + ms) st) : pq_U X Y nL pc L (x :: y' :: z :: (T' ++ [(q, e)])) k n (.ref q :: st) := u_callN (pre := x :: y' :: z :: T') hB hK hR lk hn hN lv hM d hW hr hr2 hc hs kk
end UU
end
section
set_option maxRecDepth 8000 in
theorem k_oi : Cond.instanceMethod Lib.objectInit ∈ pq_G := pq_t1 25 rfl rfl
set_option maxRecDepth 8000 in
theorem k_oc : Cond.code Lib.objectInit ⟨#[0xb1]⟩ 1 none ∈ pq_G := pq_t1 26 rfl rfl
set_option maxRecDepth 8000 in
theorem k_ac_long : Cond.arrayClass .long ∈ pq_G := pq_t1 50 rfl rfl
set_option maxRecDepth 8000 in
theorem k_ac_int : Cond.arrayClass .int ∈ pq_G := pq_t1 83 rfl rfl
set_option maxRecDepth 8000 in
theorem k_ini_X10 : Cond.initialized RX10 ∈ pq_G := pq_t1 1 rfl rfl
set_option maxRecDepth 8000 in
theorem k_ini_X6 : Cond.initialized RX6 ∈ pq_G := pq_t1 2 rfl rfl
set_option maxRecDepth 8000 in
theorem k_ini_X9 : Cond.initialized RX9 ∈ pq_G := pq_t1 3 rfl rfl
set_option maxRecDepth 8000 in
theorem k_ini_X1 : Cond.initialized RX1 ∈ pq_G := pq_t1 4 rfl rfl
set_option maxRecDepth 8000 in
theorem k_ini_X3 : Cond.initialized RX3 ∈ pq_G := pq_t1 5 rfl rfl
set_option maxRecDepth 8000 in
theorem k_ini_X2 : Cond.initialized RX2 ∈ pq_G := pq_t1 6 rfl rfl
set_option maxRecDepth 8000 in
theorem k_ini_X0 : Cond.initialized RX0 ∈ pq_G := pq_t1 7 rfl rfl
set_option maxRecDepth 8000 in
theorem k_ini_X7 : Cond.initialized RX7 ∈ pq_G := pq_t1 8 rfl rfl
set_option maxRecDepth 8000 in
theorem k_ini_X5 : Cond.initialized RX5 ∈ pq_G := pq_t1 9 rfl rfl
set_option maxRecDepth 8000 in
theorem k_ini_X8 : Cond.initialized RX8 ∈ pq_G := pq_t1 10 rfl rfl
set_option maxRecDepth 8000 in
theorem k_ini_X4 : Cond.initialized RX4 ∈ pq_G := pq_t1 11 rfl rfl
set_option maxRecDepth 8000 in
theorem k_ini_X11 : Cond.initialized RX11 ∈ pq_G := pq_t1 12 rfl rfl
set_option maxRecDepth 8000 in
theorem k_cl_L_7 : Cond.classLink RL 7 RX10 ∈ pq_G := pq_t1 19 rfl rfl
set_option maxRecDepth 8000 in
theorem k_in_X10 : Cond.instantiable RX10 9 ∈ pq_G := pq_t1 20 rfl rfl
set_option maxRecDepth 8000 in
theorem k_cl_X10_7 : Cond.classLink RX10 7 RX6 ∈ pq_G := pq_t1 27 rfl rfl
set_option maxRecDepth 8000 in
theorem k_in_X6 : Cond.instantiable RX6 5 ∈ pq_G := pq_t1 28 rfl rfl
set_option maxRecDepth 8000 in
theorem k_cl_X6_9 : Cond.classLink RX6 9 RX1 ∈ pq_G := pq_t1 33 rfl rfl
set_option maxRecDepth 8000 in
theorem k_cl_X6_20 : Cond.classLink RX6 20 RX9 ∈ pq_G := pq_t1 35 rfl rfl
set_option maxRecDepth 8000 in
theorem k_in_X9 : Cond.instantiable RX9 2 ∈ pq_G := pq_t1 36 rfl rfl
set_option maxRecDepth 8000 in
theorem k_in_X1 : Cond.instantiable RX1 4 ∈ pq_G := pq_t1 51 rfl rfl
set_option maxRecDepth 8000 in
theorem k_cl_X10_16 : Cond.classLink RX10 16 RX3 ∈ pq_G := pq_t1 107 rfl rfl
set_option maxRecDepth 8000 in
theorem k_in_X3 : Cond.instantiable RX3 2 ∈ pq_G := pq_t1 108 rfl rfl
set_option maxRecDepth 8000 in
theorem k_cl_X10_23 : Cond.classLink RX10 23 RX2 ∈ pq_G := pq_t1 123 rfl rfl
set_option maxRecDepth 8000 in
theorem k_in_X2 : Cond.instantiable RX2 5 ∈ pq_G := pq_t1 124 rfl rfl
set_option maxRecDepth 8000 in
theorem k_cl_X10_30 : Cond.classLink RX10 30 RX0 ∈ pq_G := pq_t1 145 rfl rfl
set_option maxRecDepth 8000 in
theorem k_in_X0 : Cond.instantiable RX0 7 ∈ pq_G := pq_t1 146 rfl rfl
set_option maxRecDepth 8000 in
theorem k_cl_X10_37 : Cond.classLink RX10 37 RX7 ∈ pq_G := pq_t1 179 rfl rfl
set_option maxRecDepth 8000 in
theorem k_in_X7 : Cond.instantiable RX7 3 ∈ pq_G := pq_t1 180 rfl rfl
set_option maxRecDepth 8000 in
theorem k_cl_X10_44 : Cond.classLink RX10 44 RX5 ∈ pq_G := pq_t1 197 rfl rfl
set_option maxRecDepth 8000 in
theorem k_in_X5 : Cond.instantiable RX5 4 ∈ pq_G := pq_t1 198 rfl rfl
set_option maxRecDepth 8000 in
theorem k_cl_X5_9 : Cond.classLink RX5 9 "[[J" ∈ pq_G := pq_t1 203 rfl rfl
set_option maxRecDepth 8000 in
theorem k_cl_X10_51 : Cond.classLink RX10 51 RX8 ∈ pq_G := pq_t1 218 rfl rfl
set_option maxRecDepth 8000 in
theorem k_in_X8 : Cond.instantiable RX8 6 ∈ pq_G := pq_t1 219 rfl rfl
set_option maxRecDepth 8000 in
theorem k_cl_X10_58 : Cond.classLink RX10 58 RX4 ∈ pq_G := pq_t2 4 rfl rfl
set_option maxRecDepth 8000 in
theorem k_in_X4 : Cond.instantiable RX4 2 ∈ pq_G := pq_t2 5 rfl rfl
set_option maxRecDepth 8000 in
theorem k_cl_X4_9 : Cond.classLink RX4 9 "[[I" ∈ pq_G := pq_t2 10 rfl rfl
set_option maxRecDepth 8000 in
theorem k_cl_L_10 : Cond.classLink RL 10 RX11 ∈ pq_G := pq_t4 192 rfl rfl
set_option maxRecDepth 8000 in
theorem k_in_X11 : Cond.instantiable RX11 44 ∈ pq_G := pq_t4 193 rfl rfl
theorem df_X0 : ∀ j, j < 7 → defaultValue (tyX0 j) = vp_V [.null, .null, .null, .null, .int 0, .null, .int 0] j := fun j hj => match j, hj with | 0, _ => rfl | 1, _ => rfl | 2, _ => rfl | 3, _ => rfl | 4, _ => rfl | 5, _ => rfl | 6, _ => rfl | n + 7, h => absurd h (by omega)
theorem df_X1 : ∀ j, j < 4 → defaultValue (tyX1 j) = vp_V [.null, .int 0, .int 0, .int 0] j := fun j hj => match j, hj with | 0, _ => rfl | 1, _ => rfl | 2, _ => rfl | 3, _ => rfl | n + 4, h => absurd h (by omega)
theorem df_X2 : ∀ j, j < 5 → defaultValue (tyX2 j) = vp_V [.null, .null, .int 0, .int 0, .int 0] j := fun j hj => match j, hj with | 0, _ => rfl | 1, _ => rfl | 2, _ => rfl | 3, _ => rfl | 4, _ => rfl | n + 5, h => absurd h (by omega)
theorem df_X3 : ∀ j, j < 2 → defaultValue (tyX3 j) = vp_V [.null, .int 0] j := fun j hj => match j, hj with | 0, _ => rfl | 1, _ => rfl | n + 2, h => absurd h (by omega)
theorem df_X4 : ∀ j, j < 2 → defaultValue (tyX4 j) = vp_V [.null, .null] j := fun j hj => match j, hj with | 0, _ => rfl | 1, _ => rfl | n + 2, h => absurd h (by omega)
theorem df_X5 : ∀ j, j < 4 → defaultValue (tyX5 j) = vp_V [.null, .null, .int 0, .int 0] j := fun j hj => match j, hj with | 0, _ => rfl | 1, _ => rfl | 2, _ => rfl | 3, _ => rfl | n + 4, h => absurd h (by omega)
theorem df_X6 : ∀ j, j < 5 → defaultValue (tyX6 j) = vp_V [.null, .null, .null, .int 0, .int 0] j := fun j hj => match j, hj with | 0, _ => rfl | 1, _ => rfl | 2, _ => rfl | 3, _ => rfl | 4, _ => rfl | n + 5, h => absurd h (by omega)
theorem df_X7 : ∀ j, j < 3 → defaultValue (tyX7 j) = vp_V [.int 0, .int 0, .int 0] j := fun j hj => match j, hj with | 0, _ => rfl | 1, _ => rfl | 2, _ => rfl | n + 3, h => absurd h (by omega)
theorem df_X8 : ∀ j, j < 6 → defaultValue (tyX8 j) = vp_V [.int 0, .null, .null, .null, .null, .int 0] j := fun j hj => match j, hj with | 0, _ => rfl | 1, _ => rfl | 2, _ => rfl | 3, _ => rfl | 4, _ => rfl | 5, _ => rfl | n + 6, h => absurd h (by omega)
theorem df_X9 : ∀ j, j < 2 → defaultValue (tyX9 j) = vp_V [.null, .int 0] j := fun j hj => match j, hj with | 0, _ => rfl | 1, _ => rfl | n + 2, h => absurd h (by omega)
theorem df_X10 : ∀ j, j < 9 → defaultValue (tyX10 j) = vp_V [.null, .null, .null, .null, .null, .null, .null, .null, .null] j := fun j hj => match j, hj with | 0, _ => rfl | 1, _ => rfl | 2, _ => rfl | 3, _ => rfl | 4, _ => rfl | 5, _ => rfl | 6, _ => rfl | 7, _ => rfl | 8, _ => rfl | n + 9, h => absurd h (by omega)
theorem df_X11 : ∀ j, j < 44 → defaultValue (tyX11 j) = vp_V [.null, .null, .null, .null, .null, .int 0, .null, .null, .int 0, .null, .null, .int 0, .int 0, .null, .null, .null, .null, .null, .int 0, .null, .null, .int 0, .int 0, .int 0, .int 0, .int 0, .int 0, .int 0, .long 0, .null, .null, .int 0, .int 0, .int 0, .int 0, .null, .int 0, .int 0, .null, .null, .null, .int 0, .int 0, .int 0] j := fun j hj => match j, hj with | 0, _ => rfl | 1, _ => rfl | 2, _ => rfl | 3, _ => rfl | 4, _ => rfl | 5, _ => rfl | 6, _ => rfl | 7, _ => rfl | 8, _ => rfl | 9, _ => rfl | 10, _ => rfl | 11, _ => rfl | 12, _ => rfl | 13, _ => rfl | 14, _ => rfl | 15, _ => rfl | 16, _ => rfl | 17, _ => rfl | 18, _ => rfl | 19, _ => rfl | 20, _ => rfl | 21, _ => rfl | 22, _ => rfl | 23, _ => rfl | 24, _ => rfl | 25, _ => rfl | 26, _ => rfl | 27, _ => rfl | 28, _ => rfl | 29, _ => rfl | 30, _ => rfl | 31, _ => rfl | 32, _ => rfl | 33, _ => rfl | 34, _ => rfl | 35, _ => rfl | 36, _ => rfl | 37, _ => rfl | 38, _ => rfl | 39, _ => rfl | 40, _ => rfl | 41, _ => rfl | 42, _ => rfl | 43, _ => rfl | n + 44, h => absurd h (by omega)
theorem mna_eq {r A : Nat → Nat} {N b : Nat} (h : ∀ i, i < N → A (b + i) = r i) : (fun i => if i < N then some (r i) else none) = (fun i => if i < N then some (A (b + i)) else none) := funext fun i => by
  by_cases hi : i < N
  · rw [if_pos hi, if_pos hi, h i hi]
  · rw [if_neg hi, if_neg hi]
theorem dX1_init_0 : decode cX1_init 0 = .ok (.aload_n 0, 1) := by decide +kernel
theorem dX1_init_1 : decode cX1_init 1 = .ok (.invokespecial 3, 3) := by decide +kernel
theorem dX1_init_4 : decode cX1_init 4 = .ok (.aload_n 0, 1) := by decide +kernel
theorem dX1_init_5 : decode cX1_init 5 = .ok (.bipush 28, 2) := by decide +kernel
theorem dX1_init_7 : decode cX1_init 7 = .ok (.newarray .int, 2) := by decide +kernel
theorem dX1_init_9 : decode cX1_init 9 = .ok (.putfield 9, 3) := by decide +kernel
theorem dX1_init_12 : decode cX1_init 12 = .ok (.return_, 1) := by decide +kernel
set_option maxRecDepth 8000 in
theorem k_lo_X1_3 : Cond.methodLink RX1 3 Lib.objectInit ∈ pq_G := pq_t1 55 rfl rfl
set_option maxRecDepth 8000 in
theorem fw_X1_9 : Cond.fieldLink RX1 9 (TX1 0).1 (TX1 0).2.1 (TX1 0).2.2.1 ∈ pq_G := pq_t1 56 rfl rfl
def W_X1 (g : pq_g) (q0 : Nat) (a : Nat → Nat) : va_W := [(q0, .inr (1, [.ref (a 0), .int 0, .int 0, .int 0])), (a 0, .inl (g.2.2.1 0, 28, .inl (fun _ => 0)))]
set_option maxRecDepth 8000 in
theorem lb_X1_init : pq_LB yX1_init cX1_init 1 none 0 := ⟨pq_t1 4 rfl rfl, pq_t1 54 rfl rfl, by decide +kernel, by decide +kernel, by decide +kernel⟩
set_option maxRecDepth 8000 in
theorem li_X1_init : Cond.instanceMethod yX1_init ∈ pq_G := pq_t1 53 rfl rfl
set_option maxRecDepth 100000 in
set_option maxHeartbeats 4000000 in
theorem n_X1 (g : pq_g) (l : Launch) (q0 : Nat) : pq_N (g.2.1, vwCl, pq_tys g) l yX1_init cX1_init 1 1 20 1 28 q0 (.inr (1, [.null, .int 0, .int 0, .int 0])) (W_X1 g q0) := by
  refine pq_metI l (own := RX1) 1 20 1 28 q0 _ _ (by decide +kernel) rfl rfl (by decide) (fun X hXl hB hK hR => ?_)
  refine u_aload_n hB 0 dX1_init_0 rfl rfl ?_
  refine u_obj hB hR k_lo_X1_3 k_oi k_oc (by decide) (Nat.le_of_ble_eq_true rfl) dX1_init_1 ?_
  refine u_aload_n hB 0 dX1_init_4 rfl rfl ?_
  refine u_bipush hB 28 dX1_init_5 (by decide) ?_
  refine h_newi (t0 := 0) (cA := g.2.2.1 0) hB hK hR rfl k_ac_int 28 (by decide) (by decide) (by decide) (by decide) (by decide) dX1_init_7 (fun q1 => ?_)
  refine u_putF (f := 0) (ty := (.array .int)) tyX1 hB hK hR rfl (by decide) fw_X1_9 uw_X1 tyX1_ok nmX1 rfl rfl rfl rfl rfl (Nat.le_of_ble_eq_true rfl) dX1_init_9 ?_
  exact u_vret (fun i => ([q1] : List Nat).getD i 0) hB hK hR rfl (by decide) (by decide) dX1_init_12
theorem dX3_init_0 : decode cX3_init 0 = .ok (.aload_n 0, 1) := by decide +kernel
theorem dX3_init_1 : decode cX3_init 1 = .ok (.invokespecial 3, 3) := by decide +kernel
theorem dX3_init_4 : decode cX3_init 4 = .ok (.aload_n 0, 1) := by decide +kernel
theorem dX3_init_5 : decode cX3_init 5 = .ok (.bipush 72, 2) := by decide +kernel
theorem dX3_init_7 : decode cX3_init 7 = .ok (.newarray .int, 2) := by decide +kernel
theorem dX3_init_9 : decode cX3_init 9 = .ok (.putfield 9, 3) := by decide +kernel
theorem dX3_init_12 : decode cX3_init 12 = .ok (.return_, 1) := by decide +kernel
set_option maxRecDepth 8000 in
theorem k_lo_X3_3 : Cond.methodLink RX3 3 Lib.objectInit ∈ pq_G := pq_t1 112 rfl rfl
set_option maxRecDepth 8000 in
theorem fw_X3_9 : Cond.fieldLink RX3 9 (TX3 0).1 (TX3 0).2.1 (TX3 0).2.2.1 ∈ pq_G := pq_t1 113 rfl rfl
def W_X3 (g : pq_g) (q0 : Nat) (a : Nat → Nat) : va_W := [(q0, .inr (3, [.ref (a 0), .int 0])), (a 0, .inl (g.2.2.1 0, 72, .inl (fun _ => 0)))]
set_option maxRecDepth 8000 in
theorem lb_X3_init : pq_LB yX3_init cX3_init 1 none 0 := ⟨pq_t1 5 rfl rfl, pq_t1 111 rfl rfl, by decide +kernel, by decide +kernel, by decide +kernel⟩
set_option maxRecDepth 8000 in
theorem li_X3_init : Cond.instanceMethod yX3_init ∈ pq_G := pq_t1 110 rfl rfl
set_option maxRecDepth 100000 in
set_option maxHeartbeats 4000000 in
theorem n_X3 (g : pq_g) (l : Launch) (q0 : Nat) : pq_N (g.2.1, vwCl, pq_tys g) l yX3_init cX3_init 1 1 20 1 72 q0 (.inr (3, [.null, .int 0])) (W_X3 g q0) := by
  refine pq_metI l (own := RX3) 1 20 1 72 q0 _ _ (by decide +kernel) rfl rfl (by decide) (fun X hXl hB hK hR => ?_)
  refine u_aload_n hB 0 dX3_init_0 rfl rfl ?_
  refine u_obj hB hR k_lo_X3_3 k_oi k_oc (by decide) (Nat.le_of_ble_eq_true rfl) dX3_init_1 ?_
  refine u_aload_n hB 0 dX3_init_4 rfl rfl ?_
  refine u_bipush hB 72 dX3_init_5 (by decide) ?_
  refine h_newi (t0 := 0) (cA := g.2.2.1 0) hB hK hR rfl k_ac_int 72 (by decide) (by decide) (by decide) (by decide) (by decide) dX3_init_7 (fun q1 => ?_)
  refine u_putF (f := 0) (ty := (.array .int)) tyX3 hB hK hR rfl (by decide) fw_X3_9 uw_X3 tyX3_ok nmX3 rfl rfl rfl rfl rfl (Nat.le_of_ble_eq_true rfl) dX3_init_9 ?_
  exact u_vret (fun i => ([q1] : List Nat).getD i 0) hB hK hR rfl (by decide) (by decide) dX3_init_12
theorem dX2_init_0 : decode cX2_init 0 = .ok (.aload_n 0, 1) := by decide +kernel
theorem dX2_init_1 : decode cX2_init 1 = .ok (.invokespecial 3, 3) := by decide +kernel
theorem dX2_init_4 : decode cX2_init 4 = .ok (.aload_n 0, 1) := by decide +kernel
theorem dX2_init_5 : decode cX2_init 5 = .ok (.iconst 3, 1) := by decide +kernel
theorem dX2_init_6 : decode cX2_init 6 = .ok (.newarray .int, 2) := by decide +kernel
theorem dX2_init_8 : decode cX2_init 8 = .ok (.putfield 9, 3) := by decide +kernel
theorem dX2_init_11 : decode cX2_init 11 = .ok (.return_, 1) := by decide +kernel
set_option maxRecDepth 8000 in
theorem k_lo_X2_3 : Cond.methodLink RX2 3 Lib.objectInit ∈ pq_G := pq_t1 128 rfl rfl
set_option maxRecDepth 8000 in
theorem fw_X2_9 : Cond.fieldLink RX2 9 (TX2 0).1 (TX2 0).2.1 (TX2 0).2.2.1 ∈ pq_G := pq_t1 129 rfl rfl
def W_X2 (g : pq_g) (q0 : Nat) (a : Nat → Nat) : va_W := [(q0, .inr (2, [.ref (a 0), .null, .int 0, .int 0, .int 0])), (a 0, .inl (g.2.2.1 0, 3, .inl (fun _ => 0)))]
set_option maxRecDepth 8000 in
theorem lb_X2_init : pq_LB yX2_init cX2_init 1 none 0 := ⟨pq_t1 6 rfl rfl, pq_t1 127 rfl rfl, by decide +kernel, by decide +kernel, by decide +kernel⟩
set_option maxRecDepth 8000 in
theorem li_X2_init : Cond.instanceMethod yX2_init ∈ pq_G := pq_t1 126 rfl rfl
set_option maxRecDepth 100000 in
set_option maxHeartbeats 4000000 in
theorem n_X2 (g : pq_g) (l : Launch) (q0 : Nat) : pq_N (g.2.1, vwCl, pq_tys g) l yX2_init cX2_init 1 1 20 1 3 q0 (.inr (2, [.null, .null, .int 0, .int 0, .int 0])) (W_X2 g q0) := by
  refine pq_metI l (own := RX2) 1 20 1 3 q0 _ _ (by decide +kernel) rfl rfl (by decide) (fun X hXl hB hK hR => ?_)
  refine u_aload_n hB 0 dX2_init_0 rfl rfl ?_
  refine u_obj hB hR k_lo_X2_3 k_oi k_oc (by decide) (Nat.le_of_ble_eq_true rfl) dX2_init_1 ?_
  refine u_aload_n hB 0 dX2_init_4 rfl rfl ?_
  refine u_iconst hB 3 dX2_init_5 (by decide) ?_
  refine h_newi (t0 := 0) (cA := g.2.2.1 0) hB hK hR rfl k_ac_int 3 (by decide) (by decide) (by decide) (by decide) (by decide) dX2_init_6 (fun q1 => ?_)
  refine u_putF (f := 0) (ty := (.array .int)) tyX2 hB hK hR rfl (by decide) fw_X2_9 uw_X2 tyX2_ok nmX2 rfl rfl rfl rfl rfl (Nat.le_of_ble_eq_true rfl) dX2_init_8 ?_
  exact u_vret (fun i => ([q1] : List Nat).getD i 0) hB hK hR rfl (by decide) (by decide) dX2_init_11
theorem dX0_init_0 : decode cX0_init 0 = .ok (.aload_n 0, 1) := by decide +kernel
theorem dX0_init_1 : decode cX0_init 1 = .ok (.invokespecial 3, 3) := by decide +kernel
theorem dX0_init_4 : decode cX0_init 4 = .ok (.aload_n 0, 1) := by decide +kernel
theorem dX0_init_5 : decode cX0_init 5 = .ok (.bipush 9, 2) := by decide +kernel
theorem dX0_init_7 : decode cX0_init 7 = .ok (.newarray .int, 2) := by decide +kernel
theorem dX0_init_9 : decode cX0_init 9 = .ok (.putfield 9, 3) := by decide +kernel
theorem dX0_init_12 : decode cX0_init 12 = .ok (.aload_n 0, 1) := by decide +kernel
theorem dX0_init_13 : decode cX0_init 13 = .ok (.bipush 9, 2) := by decide +kernel
theorem dX0_init_15 : decode cX0_init 15 = .ok (.newarray .int, 2) := by decide +kernel
theorem dX0_init_17 : decode cX0_init 17 = .ok (.putfield 15, 3) := by decide +kernel
theorem dX0_init_20 : decode cX0_init 20 = .ok (.aload_n 0, 1) := by decide +kernel
theorem dX0_init_21 : decode cX0_init 21 = .ok (.bipush 9, 2) := by decide +kernel
theorem dX0_init_23 : decode cX0_init 23 = .ok (.newarray .int, 2) := by decide +kernel
theorem dX0_init_25 : decode cX0_init 25 = .ok (.putfield 18, 3) := by decide +kernel
theorem dX0_init_28 : decode cX0_init 28 = .ok (.aload_n 0, 1) := by decide +kernel
theorem dX0_init_29 : decode cX0_init 29 = .ok (.bipush 9, 2) := by decide +kernel
theorem dX0_init_31 : decode cX0_init 31 = .ok (.newarray .int, 2) := by decide +kernel
theorem dX0_init_33 : decode cX0_init 33 = .ok (.putfield 21, 3) := by decide +kernel
theorem dX0_init_36 : decode cX0_init 36 = .ok (.return_, 1) := by decide +kernel
set_option maxRecDepth 8000 in
theorem k_lo_X0_3 : Cond.methodLink RX0 3 Lib.objectInit ∈ pq_G := pq_t1 150 rfl rfl
set_option maxRecDepth 8000 in
theorem fw_X0_9 : Cond.fieldLink RX0 9 (TX0 0).1 (TX0 0).2.1 (TX0 0).2.2.1 ∈ pq_G := pq_t1 151 rfl rfl
set_option maxRecDepth 8000 in
theorem fw_X0_15 : Cond.fieldLink RX0 15 (TX0 1).1 (TX0 1).2.1 (TX0 1).2.2.1 ∈ pq_G := pq_t1 153 rfl rfl
set_option maxRecDepth 8000 in
theorem fw_X0_18 : Cond.fieldLink RX0 18 (TX0 2).1 (TX0 2).2.1 (TX0 2).2.2.1 ∈ pq_G := pq_t1 155 rfl rfl
set_option maxRecDepth 8000 in
theorem fw_X0_21 : Cond.fieldLink RX0 21 (TX0 3).1 (TX0 3).2.1 (TX0 3).2.2.1 ∈ pq_G := pq_t1 157 rfl rfl
def W_X0 (g : pq_g) (q0 : Nat) (a : Nat → Nat) : va_W := [(q0, .inr (0, [.ref (a 0), .ref (a 1), .ref (a 2), .ref (a 3), .int 0, .null, .int 0])), (a 0, .inl (g.2.2.1 0, 9, .inl (fun _ => 0))), (a 1, .inl (g.2.2.1 0, 9, .inl (fun _ => 0))), (a 2, .inl (g.2.2.1 0, 9, .inl (fun _ => 0))), (a 3, .inl (g.2.2.1 0, 9, .inl (fun _ => 0)))]
set_option maxRecDepth 8000 in
theorem lb_X0_init : pq_LB yX0_init cX0_init 1 none 0 := ⟨pq_t1 7 rfl rfl, pq_t1 149 rfl rfl, by decide +kernel, by decide +kernel, by decide +kernel⟩
set_option maxRecDepth 8000 in
theorem li_X0_init : Cond.instanceMethod yX0_init ∈ pq_G := pq_t1 148 rfl rfl
set_option maxRecDepth 100000 in
set_option maxHeartbeats 4000000 in
theorem n_X0 (g : pq_g) (l : Launch) (q0 : Nat) : pq_N (g.2.1, vwCl, pq_tys g) l yX0_init cX0_init 1 1 20 4 36 q0 (.inr (0, [.null, .null, .null, .null, .int 0, .null, .int 0])) (W_X0 g q0) := by
  refine pq_metI l (own := RX0) 1 20 4 36 q0 _ _ (by decide +kernel) rfl rfl (by decide) (fun X hXl hB hK hR => ?_)
  refine u_aload_n hB 0 dX0_init_0 rfl rfl ?_
  refine u_obj hB hR k_lo_X0_3 k_oi k_oc (by decide) (Nat.le_of_ble_eq_true rfl) dX0_init_1 ?_
  refine u_aload_n hB 0 dX0_init_4 rfl rfl ?_
  refine u_bipush hB 9 dX0_init_5 (by decide) ?_
  refine h_newi (t0 := 0) (cA := g.2.2.1 0) hB hK hR rfl k_ac_int 9 (by decide) (by decide) (by decide) (by decide) (by decide) dX0_init_7 (fun q1 => ?_)
  refine u_putF (f := 0) (ty := (.array .int)) tyX0 hB hK hR rfl (by decide) fw_X0_9 uw_X0 tyX0_ok nmX0 rfl rfl rfl rfl rfl (Nat.le_of_ble_eq_true rfl) dX0_init_9 ?_
  refine u_aload_n hB 0 dX0_init_12 rfl rfl ?_
  refine u_bipush hB 9 dX0_init_13 (by decide) ?_
  refine h_newi (t0 := 0) (cA := g.2.2.1 0) hB hK hR rfl k_ac_int 9 (by decide) (by decide) (by decide) (by decide) (by decide) dX0_init_15 (fun q2 => ?_)
  refine u_putF (f := 1) (ty := (.array .int)) tyX0 hB hK hR rfl (by decide) fw_X0_15 uw_X0 tyX0_ok nmX0 rfl rfl rfl rfl rfl (Nat.le_of_ble_eq_true rfl) dX0_init_17 ?_
  refine u_aload_n hB 0 dX0_init_20 rfl rfl ?_
  refine u_bipush hB 9 dX0_init_21 (by decide) ?_
  refine h_newi (t0 := 0) (cA := g.2.2.1 0) hB hK hR rfl k_ac_int 9 (by decide) (by decide) (by decide) (by decide) (by decide) dX0_init_23 (fun q3 => ?_)
  refine u_putF (f := 2) (ty := (.array .int)) tyX0 hB hK hR rfl (by decide) fw_X0_18 uw_X0 tyX0_ok nmX0 rfl rfl rfl rfl rfl (Nat.le_of_ble_eq_true rfl) dX0_init_25 ?_
  refine u_aload_n hB 0 dX0_init_28 rfl rfl ?_
  refine u_bipush hB 9 dX0_init_29 (by decide) ?_
  refine h_newi (t0 := 0) (cA := g.2.2.1 0) hB hK hR rfl k_ac_int 9 (by decide) (by decide) (by decide) (by decide) (by decide) dX0_init_31 (fun q4 => ?_)
  refine u_putF (f := 3) (ty := (.array .int)) tyX0 hB hK hR rfl (by decide) fw_X0_21 uw_X0 tyX0_ok nmX0 rfl rfl rfl rfl rfl (Nat.le_of_ble_eq_true rfl) dX0_init_33 ?_
  exact u_vret (fun i => ([q1, q2, q3, q4] : List Nat).getD i 0) hB hK hR rfl (by decide) (by decide) dX0_init_36
theorem dX7_init_0 : decode cX7_init 0 = .ok (.aload_n 0, 1) := by decide +kernel
theorem dX7_init_1 : decode cX7_init 1 = .ok (.invokespecial 3, 3) := by decide +kernel
theorem dX7_init_4 : decode cX7_init 4 = .ok (.return_, 1) := by decide +kernel
set_option maxRecDepth 8000 in
theorem k_lo_X7_3 : Cond.methodLink RX7 3 Lib.objectInit ∈ pq_G := pq_t1 184 rfl rfl
def W_X7 (g : pq_g) (q0 : Nat) (a : Nat → Nat) : va_W := [(q0, .inr (7, [.int 0, .int 0, .int 0]))]
set_option maxRecDepth 8000 in
theorem lb_X7_init : pq_LB yX7_init cX7_init 1 none 0 := ⟨pq_t1 8 rfl rfl, pq_t1 183 rfl rfl, by decide +kernel, by decide +kernel, by decide +kernel⟩
set_option maxRecDepth 8000 in
theorem li_X7_init : Cond.instanceMethod yX7_init ∈ pq_G := pq_t1 182 rfl rfl
set_option maxRecDepth 100000 in
set_option maxHeartbeats 4000000 in
theorem n_X7 (g : pq_g) (l : Launch) (q0 : Nat) : pq_N (g.2.1, vwCl, pq_tys g) l yX7_init cX7_init 1 1 20 0 0 q0 (.inr (7, [.int 0, .int 0, .int 0])) (W_X7 g q0) := by
  refine pq_metI l (own := RX7) 1 20 0 0 q0 _ _ (by decide +kernel) rfl rfl (by decide) (fun X hXl hB hK hR => ?_)
  refine u_aload_n hB 0 dX7_init_0 rfl rfl ?_
  refine u_obj hB hR k_lo_X7_3 k_oi k_oc (by decide) (Nat.le_of_ble_eq_true rfl) dX7_init_1 ?_
  exact u_vret (fun i => ([] : List Nat).getD i 0) hB hK hR rfl (by decide) (by decide) dX7_init_4
theorem dX9_init_0 : decode cX9_init 0 = .ok (.aload_n 0, 1) := by decide +kernel
theorem dX9_init_1 : decode cX9_init 1 = .ok (.invokespecial 3, 3) := by decide +kernel
theorem dX9_init_4 : decode cX9_init 4 = .ok (.aload_n 0, 1) := by decide +kernel
theorem dX9_init_5 : decode cX9_init 5 = .ok (.sipush 190, 3) := by decide +kernel
theorem dX9_init_8 : decode cX9_init 8 = .ok (.newarray .long, 2) := by decide +kernel
theorem dX9_init_10 : decode cX9_init 10 = .ok (.putfield 9, 3) := by decide +kernel
theorem dX9_init_13 : decode cX9_init 13 = .ok (.return_, 1) := by decide +kernel
set_option maxRecDepth 8000 in
theorem k_lo_X9_3 : Cond.methodLink RX9 3 Lib.objectInit ∈ pq_G := pq_t1 40 rfl rfl
set_option maxRecDepth 8000 in
theorem fw_X9_9 : Cond.fieldLink RX9 9 (TX9 0).1 (TX9 0).2.1 (TX9 0).2.2.1 ∈ pq_G := pq_t1 41 rfl rfl
def W_X9 (g : pq_g) (q0 : Nat) (a : Nat → Nat) : va_W := [(q0, .inr (9, [.ref (a 0), .int 0])), (a 0, .inl (g.2.2.1 1, 190, .inr (.inl (fun _ => 0))))]
set_option maxRecDepth 8000 in
theorem lb_X9_init : pq_LB yX9_init cX9_init 1 none 0 := ⟨pq_t1 3 rfl rfl, pq_t1 39 rfl rfl, by decide +kernel, by decide +kernel, by decide +kernel⟩
set_option maxRecDepth 8000 in
theorem li_X9_init : Cond.instanceMethod yX9_init ∈ pq_G := pq_t1 38 rfl rfl
set_option maxRecDepth 100000 in
set_option maxHeartbeats 4000000 in
theorem n_X9 (g : pq_g) (l : Launch) (q0 : Nat) : pq_N (g.2.1, vwCl, pq_tys g) l yX9_init cX9_init 1 1 20 1 190 q0 (.inr (9, [.null, .int 0])) (W_X9 g q0) := by
  refine pq_metI l (own := RX9) 1 20 1 190 q0 _ _ (by decide +kernel) rfl rfl (by decide) (fun X hXl hB hK hR => ?_)
  refine u_aload_n hB 0 dX9_init_0 rfl rfl ?_
  refine u_obj hB hR k_lo_X9_3 k_oi k_oc (by decide) (Nat.le_of_ble_eq_true rfl) dX9_init_1 ?_
  refine u_aload_n hB 0 dX9_init_4 rfl rfl ?_
  refine u_sipush hB 190 dX9_init_5 (by decide) ?_
  refine h_newl (t0 := 1) (cA := g.2.2.1 1) hB hK hR rfl k_ac_long 190 (by decide) (by decide) (by decide) (by decide) (by decide) dX9_init_8 (fun q1 => ?_)
  refine u_putF (f := 0) (ty := (.array .long)) tyX9 hB hK hR rfl (by decide) fw_X9_9 uw_X9 tyX9_ok nmX9 rfl rfl rfl rfl rfl (Nat.le_of_ble_eq_true rfl) dX9_init_10 ?_
  exact u_vret (fun i => ([q1] : List Nat).getD i 0) hB hK hR rfl (by decide) (by decide) dX9_init_13
theorem dX8_init_0 : decode cX8_init 0 = .ok (.aload_n 0, 1) := by decide +kernel
theorem dX8_init_1 : decode cX8_init 1 = .ok (.invokespecial 3, 3) := by decide +kernel
theorem dX8_init_4 : decode cX8_init 4 = .ok (.aload_n 0, 1) := by decide +kernel
theorem dX8_init_5 : decode cX8_init 5 = .ok (.bipush 16, 2) := by decide +kernel
theorem dX8_init_7 : decode cX8_init 7 = .ok (.newarray .int, 2) := by decide +kernel
theorem dX8_init_9 : decode cX8_init 9 = .ok (.putfield 9, 3) := by decide +kernel
theorem dX8_init_12 : decode cX8_init 12 = .ok (.aload_n 0, 1) := by decide +kernel
theorem dX8_init_13 : decode cX8_init 13 = .ok (.bipush 16, 2) := by decide +kernel
theorem dX8_init_15 : decode cX8_init 15 = .ok (.newarray .int, 2) := by decide +kernel
theorem dX8_init_17 : decode cX8_init 17 = .ok (.putfield 15, 3) := by decide +kernel
theorem dX8_init_20 : decode cX8_init 20 = .ok (.aload_n 0, 1) := by decide +kernel
theorem dX8_init_21 : decode cX8_init 21 = .ok (.bipush 16, 2) := by decide +kernel
theorem dX8_init_23 : decode cX8_init 23 = .ok (.newarray .int, 2) := by decide +kernel
theorem dX8_init_25 : decode cX8_init 25 = .ok (.putfield 18, 3) := by decide +kernel
theorem dX8_init_28 : decode cX8_init 28 = .ok (.aload_n 0, 1) := by decide +kernel
theorem dX8_init_29 : decode cX8_init 29 = .ok (.bipush 16, 2) := by decide +kernel
theorem dX8_init_31 : decode cX8_init 31 = .ok (.newarray .int, 2) := by decide +kernel
theorem dX8_init_33 : decode cX8_init 33 = .ok (.putfield 21, 3) := by decide +kernel
theorem dX8_init_36 : decode cX8_init 36 = .ok (.return_, 1) := by decide +kernel
set_option maxRecDepth 8000 in
theorem k_lo_X8_3 : Cond.methodLink RX8 3 Lib.objectInit ∈ pq_G := pq_t1 223 rfl rfl
set_option maxRecDepth 8000 in
theorem fw_X8_9 : Cond.fieldLink RX8 9 (TX8 1).1 (TX8 1).2.1 (TX8 1).2.2.1 ∈ pq_G := pq_t1 226 rfl rfl
set_option maxRecDepth 8000 in
theorem fw_X8_15 : Cond.fieldLink RX8 15 (TX8 2).1 (TX8 2).2.1 (TX8 2).2.2.1 ∈ pq_G := pq_t1 227 rfl rfl
set_option maxRecDepth 8000 in
theorem fw_X8_18 : Cond.fieldLink RX8 18 (TX8 3).1 (TX8 3).2.1 (TX8 3).2.2.1 ∈ pq_G := pq_t1 228 rfl rfl
set_option maxRecDepth 8000 in
theorem fw_X8_21 : Cond.fieldLink RX8 21 (TX8 4).1 (TX8 4).2.1 (TX8 4).2.2.1 ∈ pq_G := pq_t1 229 rfl rfl
def W_X8 (g : pq_g) (q0 : Nat) (a : Nat → Nat) : va_W := [(q0, .inr (8, [.int 0, .ref (a 0), .ref (a 1), .ref (a 2), .ref (a 3), .int 0])), (a 0, .inl (g.2.2.1 0, 16, .inl (fun _ => 0))), (a 1, .inl (g.2.2.1 0, 16, .inl (fun _ => 0))), (a 2, .inl (g.2.2.1 0, 16, .inl (fun _ => 0))), (a 3, .inl (g.2.2.1 0, 16, .inl (fun _ => 0)))]
set_option maxRecDepth 8000 in
theorem lb_X8_init : pq_LB yX8_init cX8_init 1 none 0 := ⟨pq_t1 10 rfl rfl, pq_t1 222 rfl rfl, by decide +kernel, by decide +kernel, by decide +kernel⟩
set_option maxRecDepth 8000 in
theorem li_X8_init : Cond.instanceMethod yX8_init ∈ pq_G := pq_t1 221 rfl rfl
set_option maxRecDepth 100000 in
set_option maxHeartbeats 4000000 in
theorem n_X8 (g : pq_g) (l : Launch) (q0 : Nat) : pq_N (g.2.1, vwCl, pq_tys g) l yX8_init cX8_init 1 1 20 4 64 q0 (.inr (8, [.int 0, .null, .null, .null, .null, .int 0])) (W_X8 g q0) := by
  refine pq_metI l (own := RX8) 1 20 4 64 q0 _ _ (by decide +kernel) rfl rfl (by decide) (fun X hXl hB hK hR => ?_)
  refine u_aload_n hB 0 dX8_init_0 rfl rfl ?_
  refine u_obj hB hR k_lo_X8_3 k_oi k_oc (by decide) (Nat.le_of_ble_eq_true rfl) dX8_init_1 ?_
  refine u_aload_n hB 0 dX8_init_4 rfl rfl ?_
  refine u_bipush hB 16 dX8_init_5 (by decide) ?_
  refine h_newi (t0 := 0) (cA := g.2.2.1 0) hB hK hR rfl k_ac_int 16 (by decide) (by decide) (by decide) (by decide) (by decide) dX8_init_7 (fun q1 => ?_)
  refine u_putF (f := 1) (ty := (.array .int)) tyX8 hB hK hR rfl (by decide) fw_X8_9 uw_X8 tyX8_ok nmX8 rfl rfl rfl rfl rfl (Nat.le_of_ble_eq_true rfl) dX8_init_9 ?_
  refine u_aload_n hB 0 dX8_init_12 rfl rfl ?_
  refine u_bipush hB 16 dX8_init_13 (by decide) ?_
  refine h_newi (t0 := 0) (cA := g.2.2.1 0) hB hK hR rfl k_ac_int 16 (by decide) (by decide) (by decide) (by decide) (by decide) dX8_init_15 (fun q2 => ?_)
  refine u_putF (f := 2) (ty := (.array .int)) tyX8 hB hK hR rfl (by decide) fw_X8_15 uw_X8 tyX8_ok nmX8 rfl rfl rfl rfl rfl (Nat.le_of_ble_eq_true rfl) dX8_init_17 ?_
  refine u_aload_n hB 0 dX8_init_20 rfl rfl ?_
  refine u_bipush hB 16 dX8_init_21 (by decide) ?_
  refine h_newi (t0 := 0) (cA := g.2.2.1 0) hB hK hR rfl k_ac_int 16 (by decide) (by decide) (by decide) (by decide) (by decide) dX8_init_23 (fun q3 => ?_)
  refine u_putF (f := 3) (ty := (.array .int)) tyX8 hB hK hR rfl (by decide) fw_X8_18 uw_X8 tyX8_ok nmX8 rfl rfl rfl rfl rfl (Nat.le_of_ble_eq_true rfl) dX8_init_25 ?_
  refine u_aload_n hB 0 dX8_init_28 rfl rfl ?_
  refine u_bipush hB 16 dX8_init_29 (by decide) ?_
  refine h_newi (t0 := 0) (cA := g.2.2.1 0) hB hK hR rfl k_ac_int 16 (by decide) (by decide) (by decide) (by decide) (by decide) dX8_init_31 (fun q4 => ?_)
  refine u_putF (f := 4) (ty := (.array .int)) tyX8 hB hK hR rfl (by decide) fw_X8_21 uw_X8 tyX8_ok nmX8 rfl rfl rfl rfl rfl (Nat.le_of_ble_eq_true rfl) dX8_init_33 ?_
  exact u_vret (fun i => ([q1, q2, q3, q4] : List Nat).getD i 0) hB hK hR rfl (by decide) (by decide) dX8_init_36
theorem dX4_init_0 : decode cX4_init 0 = .ok (.aload_n 0, 1) := by decide +kernel
theorem dX4_init_1 : decode cX4_init 1 = .ok (.invokespecial 3, 3) := by decide +kernel
theorem dX4_init_4 : decode cX4_init 4 = .ok (.aload_n 0, 1) := by decide +kernel
theorem dX4_init_5 : decode cX4_init 5 = .ok (.iconst 3, 1) := by decide +kernel
theorem dX4_init_6 : decode cX4_init 6 = .ok (.bipush 40, 2) := by decide +kernel
theorem dX4_init_8 : decode cX4_init 8 = .ok (.multianewarray 9 2, 4) := by decide +kernel
theorem dX4_init_12 : decode cX4_init 12 = .ok (.putfield 11, 3) := by decide +kernel
theorem dX4_init_15 : decode cX4_init 15 = .ok (.aload_n 0, 1) := by decide +kernel
theorem dX4_init_16 : decode cX4_init 16 = .ok (.iconst 3, 1) := by decide +kernel
theorem dX4_init_17 : decode cX4_init 17 = .ok (.newarray .int, 2) := by decide +kernel
theorem dX4_init_19 : decode cX4_init 19 = .ok (.dup, 1) := by decide +kernel
theorem dX4_init_20 : decode cX4_init 20 = .ok (.iconst 0, 1) := by decide +kernel
theorem dX4_init_21 : decode cX4_init 21 = .ok (.iconst (-1), 1) := by decide +kernel
theorem dX4_init_22 : decode cX4_init 22 = .ok (.iastore, 1) := by decide +kernel
theorem dX4_init_23 : decode cX4_init 23 = .ok (.dup, 1) := by decide +kernel
theorem dX4_init_24 : decode cX4_init 24 = .ok (.iconst 1, 1) := by decide +kernel
theorem dX4_init_25 : decode cX4_init 25 = .ok (.iconst (-1), 1) := by decide +kernel
theorem dX4_init_26 : decode cX4_init 26 = .ok (.iastore, 1) := by decide +kernel
theorem dX4_init_27 : decode cX4_init 27 = .ok (.dup, 1) := by decide +kernel
theorem dX4_init_28 : decode cX4_init 28 = .ok (.iconst 2, 1) := by decide +kernel
theorem dX4_init_29 : decode cX4_init 29 = .ok (.iconst (-1), 1) := by decide +kernel
theorem dX4_init_30 : decode cX4_init 30 = .ok (.iastore, 1) := by decide +kernel
theorem dX4_init_31 : decode cX4_init 31 = .ok (.putfield 16, 3) := by decide +kernel
theorem dX4_init_34 : decode cX4_init 34 = .ok (.return_, 1) := by decide +kernel
set_option maxRecDepth 8000 in
theorem k_lo_X4_3 : Cond.methodLink RX4 3 Lib.objectInit ∈ pq_G := pq_t2 9 rfl rfl
set_option maxRecDepth 8000 in
theorem fw_X4_11 : Cond.fieldLink RX4 11 (TX4 0).1 (TX4 0).2.1 (TX4 0).2.2.1 ∈ pq_G := pq_t2 12 rfl rfl
set_option maxRecDepth 8000 in
theorem fw_X4_16 : Cond.fieldLink RX4 16 (TX4 1).1 (TX4 1).2.1 (TX4 1).2.2.1 ∈ pq_G := pq_t2 14 rfl rfl
def W_X4 (g : pq_g) (q0 : Nat) (a : Nat → Nat) : va_W := [(q0, .inr (4, [.ref (a 0), .ref (a 4)])), (a 0, .inl (g.2.2.1 3, 3, .inr (.inr (.inr (.inr (fun i => if i < 3 then some (a (1 + i)) else none)))))), (a 1, .inl (g.2.2.1 0, 40, .inl (fun _ => 0))), (a 2, .inl (g.2.2.1 0, 40, .inl (fun _ => 0))), (a 3, .inl (g.2.2.1 0, 40, .inl (fun _ => 0))), (a 4, .inl (g.2.2.1 0, 3, .inl (upd (upd (upd (fun _ => 0) 0 (-1)) 1 (-1)) 2 (-1))))]
set_option maxRecDepth 8000 in
theorem lb_X4_init : pq_LB yX4_init cX4_init 1 none 0 := ⟨pq_t1 11 rfl rfl, pq_t2 8 rfl rfl, by decide +kernel, by decide +kernel, by decide +kernel⟩
set_option maxRecDepth 8000 in
theorem li_X4_init : Cond.instanceMethod yX4_init ∈ pq_G := pq_t2 7 rfl rfl
set_option maxRecDepth 100000 in
set_option maxHeartbeats 4000000 in
theorem n_X4 (g : pq_g) (l : Launch) (q0 : Nat) : pq_N (g.2.1, vwCl, pq_tys g) l yX4_init cX4_init 1 1 20 5 126 q0 (.inr (4, [.null, .null])) (W_X4 g q0) := by
  refine pq_metI l (own := RX4) 1 20 5 126 q0 _ _ (by decide +kernel) rfl rfl (by decide) (fun X hXl hB hK hR => ?_)
  refine u_aload_n hB 0 dX4_init_0 rfl rfl ?_
  refine u_obj hB hR k_lo_X4_3 k_oi k_oc (by decide) (Nat.le_of_ble_eq_true rfl) dX4_init_1 ?_
  refine u_aload_n hB 0 dX4_init_4 rfl rfl ?_
  refine u_iconst hB 3 dX4_init_5 (by decide) ?_
  refine u_bipush hB 40 dX4_init_6 (by decide) ?_
  refine h_mna (t0 := 3) (cA := g.2.2.1 3) (cy := g.2.2.1 0) (ty := .int) (z := (40, .inl (fun _ => 0))) 3 40 hB hK hR rfl (hK.1.2 0 _ rfl).2 hK.2.2.2.2.2.1 k_cl_X4_9 k_ac_int (by decide) (by decide) (by decide) (by decide) (by decide) (by decide) (by decide) rfl rfl (fun cc => rfl) (by decide) (by decide) (fun U c1 c2 h1 h2 => Option.some.inj (h1.symm.trans h2)) dX4_init_8 (fun q1 r1 => ?_)
  refine u_putF (f := 0) (ty := (.array (.array .int))) tyX4 hB hK hR rfl (by decide) fw_X4_11 uw_X4 tyX4_ok nmX4 rfl rfl rfl rfl rfl (Nat.le_of_ble_eq_true rfl) dX4_init_12 ?_
  refine u_aload_n hB 0 dX4_init_15 rfl rfl ?_
  refine u_iconst hB 3 dX4_init_16 (by decide) ?_
  refine h_newi (t0 := 0) (cA := g.2.2.1 0) hB hK hR rfl k_ac_int 3 (by decide) (by decide) (by decide) (by decide) (by decide) dX4_init_17 (fun q2 => ?_)
  refine u_dup hB dX4_init_19 rfl ?_
  refine u_iconst hB 0 dX4_init_20 (by decide) ?_
  refine u_iconst hB (-1) dX4_init_21 (by decide) ?_
  refine h_iast (t0 := 0) hB hK rfl (by unfold vp_in; decide) dX4_init_22 ?_
  refine u_dup hB dX4_init_23 rfl ?_
  refine u_iconst hB 1 dX4_init_24 (by decide) ?_
  refine u_iconst hB (-1) dX4_init_25 (by decide) ?_
  refine h_iast (t0 := 0) hB hK rfl (by unfold vp_in; decide) dX4_init_26 ?_
  refine u_dup hB dX4_init_27 rfl ?_
  refine u_iconst hB 2 dX4_init_28 (by decide) ?_
  refine u_iconst hB (-1) dX4_init_29 (by decide) ?_
  refine h_iast (t0 := 0) hB hK rfl (by unfold vp_in; decide) dX4_init_30 ?_
  refine u_putF (f := 1) (ty := (.array .int)) tyX4 hB hK hR rfl (by decide) fw_X4_16 uw_X4 tyX4_ok nmX4 rfl rfl rfl rfl rfl (Nat.le_of_ble_eq_true rfl) dX4_init_31 ?_
  exact u_vret (fun i => if i < 1 then ([q1] : List Nat).getD i 0 else if i < 4 then r1 (i - 1) else ([q2] : List Nat).getD (i - 4) 0) hB hK hR (by
    rw [mna_eq (r := r1) (A := (fun i => if i < 1 then ([q1] : List Nat).getD i 0 else if i < 4 then r1 (i - 1) else ([q2] : List Nat).getD (i - 4) 0)) (b := 1) (N := 3) (fun i hi => by
      show (if 1 + i < 1 then _ else if 1 + i < 4 then r1 (1 + i - 1) else _) = r1 i
      rw [if_neg (by omega), if_pos (by omega)]
      congr 1
      omega)]
    rfl) (by decide) (by decide) dX4_init_34
theorem we_X4 {g : pq_g} {q0 : Nat} {a a2 : Nat → Nat} (h : ∀ k, k < 5 → a k = a2 k) : W_X4 g q0 a = W_X4 g q0 a2 := by
  unfold W_X4
  rw [mna_eq (r := fun i => a (1 + i)) (A := a2) (b := 1) (N := 3) (fun i hi => (h (1 + i) (by omega)).symm)]
  rw [h 0 (by decide), h 1 (by decide), h 2 (by decide), h 3 (by decide), h 4 (by decide)]
theorem dX5_init_0 : decode cX5_init 0 = .ok (.aload_n 0, 1) := by decide +kernel
theorem dX5_init_1 : decode cX5_init 1 = .ok (.invokespecial 3, 3) := by decide +kernel
theorem dX5_init_4 : decode cX5_init 4 = .ok (.aload_n 0, 1) := by decide +kernel
theorem dX5_init_5 : decode cX5_init 5 = .ok (.bipush 28, 2) := by decide +kernel
theorem dX5_init_7 : decode cX5_init 7 = .ok (.iconst 4, 1) := by decide +kernel
theorem dX5_init_8 : decode cX5_init 8 = .ok (.multianewarray 9 2, 4) := by decide +kernel
theorem dX5_init_12 : decode cX5_init 12 = .ok (.putfield 11, 3) := by decide +kernel
theorem dX5_init_15 : decode cX5_init 15 = .ok (.aload_n 0, 1) := by decide +kernel
theorem dX5_init_16 : decode cX5_init 16 = .ok (.iconst 3, 1) := by decide +kernel
theorem dX5_init_17 : decode cX5_init 17 = .ok (.newarray .int, 2) := by decide +kernel
theorem dX5_init_19 : decode cX5_init 19 = .ok (.putfield 16, 3) := by decide +kernel
theorem dX5_init_22 : decode cX5_init 22 = .ok (.return_, 1) := by decide +kernel
set_option maxRecDepth 8000 in
theorem k_lo_X5_3 : Cond.methodLink RX5 3 Lib.objectInit ∈ pq_G := pq_t1 202 rfl rfl
set_option maxRecDepth 8000 in
theorem fw_X5_11 : Cond.fieldLink RX5 11 (TX5 0).1 (TX5 0).2.1 (TX5 0).2.2.1 ∈ pq_G := pq_t1 205 rfl rfl
set_option maxRecDepth 8000 in
theorem fw_X5_16 : Cond.fieldLink RX5 16 (TX5 1).1 (TX5 1).2.1 (TX5 1).2.2.1 ∈ pq_G := pq_t1 206 rfl rfl
def W_X5 (g : pq_g) (q0 : Nat) (a : Nat → Nat) : va_W := [(q0, .inr (5, [.ref (a 0), .ref (a 29), .int 0, .int 0])), (a 0, .inl (g.2.2.1 4, 28, .inr (.inr (.inr (.inr (fun i => if i < 28 then some (a (1 + i)) else none)))))), (a 1, .inl (g.2.2.1 1, 4, .inr (.inl (fun _ => 0)))), (a 2, .inl (g.2.2.1 1, 4, .inr (.inl (fun _ => 0)))), (a 3, .inl (g.2.2.1 1, 4, .inr (.inl (fun _ => 0)))), (a 4, .inl (g.2.2.1 1, 4, .inr (.inl (fun _ => 0)))), (a 5, .inl (g.2.2.1 1, 4, .inr (.inl (fun _ => 0)))), (a 6, .inl (g.2.2.1 1, 4, .inr (.inl (fun _ => 0)))), (a 7, .inl (g.2.2.1 1, 4, .inr (.inl (fun _ => 0)))), (a 8, .inl (g.2.2.1 1, 4, .inr (.inl (fun _ => 0)))), (a 9, .inl (g.2.2.1 1, 4, .inr (.inl (fun _ => 0)))), (a 10, .inl (g.2.2.1 1, 4, .inr (.inl (fun _ => 0)))), (a 11, .inl (g.2.2.1 1, 4, .inr (.inl (fun _ => 0)))), (a 12, .inl (g.2.2.1 1, 4, .inr (.inl (fun _ => 0)))), (a 13, .inl (g.2.2.1 1, 4, .inr (.inl (fun _ => 0)))), (a 14, .inl (g.2.2.1 1, 4, .inr (.inl (fun _ => 0)))), (a 15, .inl (g.2.2.1 1, 4, .inr (.inl (fun _ => 0)))), (a 16, .inl (g.2.2.1 1, 4, .inr (.inl (fun _ => 0)))), (a 17, .inl (g.2.2.1 1, 4, .inr (.inl (fun _ => 0)))), (a 18, .inl (g.2.2.1 1, 4, .inr (.inl (fun _ => 0)))), (a 19, .inl (g.2.2.1 1, 4, .inr (.inl (fun _ => 0)))), (a 20, .inl (g.2.2.1 1, 4, .inr (.inl (fun _ => 0)))), (a 21, .inl (g.2.2.1 1, 4, .inr (.inl (fun _ => 0)))), (a 22, .inl (g.2.2.1 1, 4, .inr (.inl (fun _ => 0)))), (a 23, .inl (g.2.2.1 1, 4, .inr (.inl (fun _ => 0)))), (a 24, .inl (g.2.2.1 1, 4, .inr (.inl (fun _ => 0)))), (a 25, .inl (g.2.2.1 1, 4, .inr (.inl (fun _ => 0)))), (a 26, .inl (g.2.2.1 1, 4, .inr (.inl (fun _ => 0)))), (a 27, .inl (g.2.2.1 1, 4, .inr (.inl (fun _ => 0)))), (a 28, .inl (g.2.2.1 1, 4, .inr (.inl (fun _ => 0)))), (a 29, .inl (g.2.2.1 0, 3, .inl (fun _ => 0)))]
set_option maxRecDepth 8000 in
theorem lb_X5_init : pq_LB yX5_init cX5_init 1 none 0 := ⟨pq_t1 9 rfl rfl, pq_t1 201 rfl rfl, by decide +kernel, by decide +kernel, by decide +kernel⟩
set_option maxRecDepth 8000 in
theorem li_X5_init : Cond.instanceMethod yX5_init ∈ pq_G := pq_t1 200 rfl rfl
set_option maxRecDepth 100000 in
set_option maxHeartbeats 4000000 in
theorem n_X5 (g : pq_g) (l : Launch) (q0 : Nat) : pq_N (g.2.1, vwCl, pq_tys g) l yX5_init cX5_init 1 1 20 30 143 q0 (.inr (5, [.null, .null, .int 0, .int 0])) (W_X5 g q0) := by
  refine pq_metI l (own := RX5) 1 20 30 143 q0 _ _ (by decide +kernel) rfl rfl (by decide) (fun X hXl hB hK hR => ?_)
  refine u_aload_n hB 0 dX5_init_0 rfl rfl ?_
  refine u_obj hB hR k_lo_X5_3 k_oi k_oc (by decide) (Nat.le_of_ble_eq_true rfl) dX5_init_1 ?_
  refine u_aload_n hB 0 dX5_init_4 rfl rfl ?_
  refine u_bipush hB 28 dX5_init_5 (by decide) ?_
  refine u_iconst hB 4 dX5_init_7 (by decide) ?_
  refine h_mna (t0 := 4) (cA := g.2.2.1 4) (cy := g.2.2.1 1) (ty := .long) (z := (4, .inr (.inl (fun _ => 0)))) 28 4 hB hK hR rfl (hK.1.2 1 _ rfl).2 hK.2.2.2.2.2.2 k_cl_X5_9 k_ac_long (by decide) (by decide) (by decide) (by decide) (by decide) (by decide) (by decide) rfl rfl (fun cc => rfl) (by decide) (by decide) (fun U c1 c2 h1 h2 => Option.some.inj (h1.symm.trans h2)) dX5_init_8 (fun q1 r1 => ?_)
  refine u_putF (f := 0) (ty := (.array (.array .long))) tyX5 hB hK hR rfl (by decide) fw_X5_11 uw_X5 tyX5_ok nmX5 rfl rfl rfl rfl rfl (Nat.le_of_ble_eq_true rfl) dX5_init_12 ?_
  refine u_aload_n hB 0 dX5_init_15 rfl rfl ?_
  refine u_iconst hB 3 dX5_init_16 (by decide) ?_
  refine h_newi (t0 := 0) (cA := g.2.2.1 0) hB hK hR rfl k_ac_int 3 (by decide) (by decide) (by decide) (by decide) (by decide) dX5_init_17 (fun q2 => ?_)
  refine u_putF (f := 1) (ty := (.array .int)) tyX5 hB hK hR rfl (by decide) fw_X5_16 uw_X5 tyX5_ok nmX5 rfl rfl rfl rfl rfl (Nat.le_of_ble_eq_true rfl) dX5_init_19 ?_
  exact u_vret (fun i => if i < 1 then ([q1] : List Nat).getD i 0 else if i < 29 then r1 (i - 1) else ([q2] : List Nat).getD (i - 29) 0) hB hK hR (by
    rw [mna_eq (r := r1) (A := (fun i => if i < 1 then ([q1] : List Nat).getD i 0 else if i < 29 then r1 (i - 1) else ([q2] : List Nat).getD (i - 29) 0)) (b := 1) (N := 28) (fun i hi => by
      show (if 1 + i < 1 then _ else if 1 + i < 29 then r1 (1 + i - 1) else _) = r1 i
      rw [if_neg (by omega), if_pos (by omega)]
      congr 1
      omega)]
    rfl) (by decide) (by decide) dX5_init_22
theorem we_X5 {g : pq_g} {q0 : Nat} {a a2 : Nat → Nat} (h : ∀ k, k < 30 → a k = a2 k) : W_X5 g q0 a = W_X5 g q0 a2 := by
  unfold W_X5
  rw [mna_eq (r := fun i => a (1 + i)) (A := a2) (b := 1) (N := 28) (fun i hi => (h (1 + i) (by omega)).symm)]
  rw [h 0 (by decide), h 1 (by decide), h 2 (by decide), h 3 (by decide), h 4 (by decide), h 5 (by decide), h 6 (by decide), h 7 (by decide), h 8 (by decide), h 9 (by decide), h 10 (by decide), h 11 (by decide), h 12 (by decide), h 13 (by decide), h 14 (by decide), h 15 (by decide), h 16 (by decide), h 17 (by decide), h 18 (by decide), h 19 (by decide), h 20 (by decide), h 21 (by decide), h 22 (by decide), h 23 (by decide), h 24 (by decide), h 25 (by decide), h 26 (by decide), h 27 (by decide), h 28 (by decide), h 29 (by decide)]
theorem dX6_init_0 : decode cX6_init 0 = .ok (.aload_n 0, 1) := by decide +kernel
theorem dX6_init_1 : decode cX6_init 1 = .ok (.invokespecial 3, 3) := by decide +kernel
theorem dX6_init_4 : decode cX6_init 4 = .ok (.aload_n 0, 1) := by decide +kernel
theorem dX6_init_5 : decode cX6_init 5 = .ok (.bipush 6, 2) := by decide +kernel
theorem dX6_init_7 : decode cX6_init 7 = .ok (.anewarray 9, 3) := by decide +kernel
theorem dX6_init_10 : decode cX6_init 10 = .ok (.putfield 11, 3) := by decide +kernel
theorem dX6_init_13 : decode cX6_init 13 = .ok (.aload_n 0, 1) := by decide +kernel
theorem dX6_init_14 : decode cX6_init 14 = .ok (.bipush 6, 2) := by decide +kernel
theorem dX6_init_16 : decode cX6_init 16 = .ok (.anewarray 9, 3) := by decide +kernel
theorem dX6_init_19 : decode cX6_init 19 = .ok (.putfield 17, 3) := by decide +kernel
theorem dX6_init_22 : decode cX6_init 22 = .ok (.aload_n 0, 1) := by decide +kernel
theorem dX6_init_23 : decode cX6_init 23 = .ok (.new 20, 3) := by decide +kernel
theorem dX6_init_26 : decode cX6_init 26 = .ok (.dup, 1) := by decide +kernel
theorem dX6_init_27 : decode cX6_init 27 = .ok (.invokespecial 22, 3) := by decide +kernel
theorem dX6_init_30 : decode cX6_init 30 = .ok (.putfield 23, 3) := by decide +kernel
theorem dX6_init_33 : decode cX6_init 33 = .ok (.aload_n 0, 1) := by decide +kernel
theorem dX6_init_34 : decode cX6_init 34 = .ok (.iconst (-1), 1) := by decide +kernel
theorem dX6_init_35 : decode cX6_init 35 = .ok (.putfield 27, 3) := by decide +kernel
theorem dX6_init_38 : decode cX6_init 38 = .ok (.iconst 0, 1) := by decide +kernel
theorem dX6_init_39 : decode cX6_init 39 = .ok (.istore_n 1, 1) := by decide +kernel
theorem dX6_init_40 : decode cX6_init 40 = .ok (.iload_n 1, 1) := by decide +kernel
theorem dX6_init_41 : decode cX6_init 41 = .ok (.bipush 6, 2) := by decide +kernel
theorem dX6_init_43 : decode cX6_init 43 = .ok (.if_icmp .ge 35, 3) := by decide +kernel
theorem dX6_init_46 : decode cX6_init 46 = .ok (.aload_n 0, 1) := by decide +kernel
theorem dX6_init_47 : decode cX6_init 47 = .ok (.getfield 11, 3) := by decide +kernel
theorem dX6_init_50 : decode cX6_init 50 = .ok (.iload_n 1, 1) := by decide +kernel
theorem dX6_init_51 : decode cX6_init 51 = .ok (.new 9, 3) := by decide +kernel
theorem dX6_init_54 : decode cX6_init 54 = .ok (.dup, 1) := by decide +kernel
theorem dX6_init_55 : decode cX6_init 55 = .ok (.invokespecial 31, 3) := by decide +kernel
theorem dX6_init_58 : decode cX6_init 58 = .ok (.aastore, 1) := by decide +kernel
theorem dX6_init_59 : decode cX6_init 59 = .ok (.aload_n 0, 1) := by decide +kernel
theorem dX6_init_60 : decode cX6_init 60 = .ok (.getfield 17, 3) := by decide +kernel
theorem dX6_init_63 : decode cX6_init 63 = .ok (.iload_n 1, 1) := by decide +kernel
theorem dX6_init_64 : decode cX6_init 64 = .ok (.new 9, 3) := by decide +kernel
theorem dX6_init_67 : decode cX6_init 67 = .ok (.dup, 1) := by decide +kernel
theorem dX6_init_68 : decode cX6_init 68 = .ok (.invokespecial 31, 3) := by decide +kernel
theorem dX6_init_71 : decode cX6_init 71 = .ok (.aastore, 1) := by decide +kernel
theorem dX6_init_72 : decode cX6_init 72 = .ok (.iinc 1 1, 3) := by decide +kernel
theorem dX6_init_75 : decode cX6_init 75 = .ok (.goto (-35), 3) := by decide +kernel
theorem dX6_init_78 : decode cX6_init 78 = .ok (.return_, 1) := by decide +kernel
set_option maxRecDepth 8000 in
theorem k_lo_X6_3 : Cond.methodLink RX6 3 Lib.objectInit ∈ pq_G := pq_t1 32 rfl rfl
set_option maxRecDepth 8000 in
theorem fw_X6_11 : Cond.fieldLink RX6 11 (TX6 0).1 (TX6 0).2.1 (TX6 0).2.2.1 ∈ pq_G := pq_t1 84 rfl rfl
set_option maxRecDepth 8000 in
theorem fw_X6_17 : Cond.fieldLink RX6 17 (TX6 1).1 (TX6 1).2.1 (TX6 1).2.2.1 ∈ pq_G := pq_t1 88 rfl rfl
set_option maxRecDepth 8000 in
theorem fw_X6_23 : Cond.fieldLink RX6 23 (TX6 2).1 (TX6 2).2.1 (TX6 2).2.2.1 ∈ pq_G := pq_t1 89 rfl rfl
set_option maxRecDepth 8000 in
theorem fw_X6_27 : Cond.fieldLink RX6 27 (TX6 4).1 (TX6 4).2.1 (TX6 4).2.2.1 ∈ pq_G := pq_t1 94 rfl rfl
def W_X6 (g : pq_g) (q0 : Nat) (a : Nat → Nat) : va_W := [(q0, .inr (6, [.ref (a 0), .ref (a 1), .ref (a 2), .int 0, .int (-1)])), (a 0, .inl (g.2.2.1 2, 6, .inr (.inr (.inr (.inr (va_up (va_up (va_up (va_up (va_up (va_up (fun _ => none) 0 (some (a 4))) 1 (some (a 8))) 2 (some (a 12))) 3 (some (a 16))) 4 (some (a 20))) 5 (some (a 24)))))))), (a 1, .inl (g.2.2.1 2, 6, .inr (.inr (.inr (.inr (va_up (va_up (va_up (va_up (va_up (va_up (fun _ => none) 0 (some (a 6))) 1 (some (a 10))) 2 (some (a 14))) 3 (some (a 18))) 4 (some (a 22))) 5 (some (a 26)))))))), (a 2, .inr (9, [.ref ((a 3)), .int 0])), (a 3, .inl (g.2.2.1 1, 190, .inr (.inl (fun _ => 0)))), (a 4, .inr (1, [.ref ((a 5)), .int 0, .int 0, .int 0])), (a 5, .inl (g.2.2.1 0, 28, .inl (fun _ => 0))), (a 6, .inr (1, [.ref ((a 7)), .int 0, .int 0, .int 0])), (a 7, .inl (g.2.2.1 0, 28, .inl (fun _ => 0))), (a 8, .inr (1, [.ref ((a 9)), .int 0, .int 0, .int 0])), (a 9, .inl (g.2.2.1 0, 28, .inl (fun _ => 0))), (a 10, .inr (1, [.ref ((a 11)), .int 0, .int 0, .int 0])), (a 11, .inl (g.2.2.1 0, 28, .inl (fun _ => 0))), (a 12, .inr (1, [.ref ((a 13)), .int 0, .int 0, .int 0])), (a 13, .inl (g.2.2.1 0, 28, .inl (fun _ => 0))), (a 14, .inr (1, [.ref ((a 15)), .int 0, .int 0, .int 0])), (a 15, .inl (g.2.2.1 0, 28, .inl (fun _ => 0))), (a 16, .inr (1, [.ref ((a 17)), .int 0, .int 0, .int 0])), (a 17, .inl (g.2.2.1 0, 28, .inl (fun _ => 0))), (a 18, .inr (1, [.ref ((a 19)), .int 0, .int 0, .int 0])), (a 19, .inl (g.2.2.1 0, 28, .inl (fun _ => 0))), (a 20, .inr (1, [.ref ((a 21)), .int 0, .int 0, .int 0])), (a 21, .inl (g.2.2.1 0, 28, .inl (fun _ => 0))), (a 22, .inr (1, [.ref ((a 23)), .int 0, .int 0, .int 0])), (a 23, .inl (g.2.2.1 0, 28, .inl (fun _ => 0))), (a 24, .inr (1, [.ref ((a 25)), .int 0, .int 0, .int 0])), (a 25, .inl (g.2.2.1 0, 28, .inl (fun _ => 0))), (a 26, .inr (1, [.ref ((a 27)), .int 0, .int 0, .int 0])), (a 27, .inl (g.2.2.1 0, 28, .inl (fun _ => 0)))]
set_option maxRecDepth 8000 in
theorem lb_X6_init : pq_LB yX6_init cX6_init 2 none 0 := ⟨pq_t1 2 rfl rfl, pq_t1 31 rfl rfl, by decide +kernel, by decide +kernel, by decide +kernel⟩
set_option maxRecDepth 8000 in
theorem li_X6_init : Cond.instanceMethod yX6_init ∈ pq_G := pq_t1 30 rfl rfl
set_option maxRecDepth 100000 in
set_option maxHeartbeats 4000000 in
theorem n_X6 (g : pq_g) (l : Launch) (q0 : Nat) : pq_N (g.2.1, vwCl, pq_tys g) l yX6_init cX6_init 2 2 40 28 588 q0 (.inr (6, [.null, .null, .null, .int 0, .int 0])) (W_X6 g q0) := by
  refine pq_metI l (own := RX6) 2 40 28 588 q0 _ _ (by decide +kernel) rfl rfl (by decide) (fun X hXl hB hK hR => ?_)
  refine u_aload_n hB 0 dX6_init_0 rfl rfl ?_
  refine u_obj hB hR k_lo_X6_3 k_oi k_oc (by decide) (Nat.le_of_ble_eq_true rfl) dX6_init_1 ?_
  refine u_aload_n hB 0 dX6_init_4 rfl rfl ?_
  refine u_bipush hB 6 dX6_init_5 (by decide) ?_
  refine h_newq (t0 := 2) (cA := g.2.2.1 2) hB hK hR rfl k_cl_X6_9 6 (by decide) (by decide) (by decide) (by decide) (by decide) dX6_init_7 (fun q1 => ?_)
  refine u_putF (f := 0) (ty := (.array (.object "FormsAboveNought$Form"))) tyX6 hB hK hR rfl (by decide) fw_X6_11 uw_X6 tyX6_ok nmX6 rfl rfl rfl rfl rfl (Nat.le_of_ble_eq_true rfl) dX6_init_10 ?_
  refine u_aload_n hB 0 dX6_init_13 rfl rfl ?_
  refine u_bipush hB 6 dX6_init_14 (by decide) ?_
  refine h_newq (t0 := 2) (cA := g.2.2.1 2) hB hK hR rfl k_cl_X6_9 6 (by decide) (by decide) (by decide) (by decide) (by decide) dX6_init_16 (fun q2 => ?_)
  refine u_putF (f := 1) (ty := (.array (.object "FormsAboveNought$Form"))) tyX6 hB hK hR rfl (by decide) fw_X6_17 uw_X6 tyX6_ok nmX6 rfl rfl rfl rfl rfl (Nat.le_of_ble_eq_true rfl) dX6_init_19 ?_
  refine u_aload_n hB 0 dX6_init_22 rfl rfl ?_
  refine u_eq (ws' := _ :: _ :: _ :: ([] : va_W)) rfl ?_
  refine h3_new (ci := 9) (C := RX9) (T := TX9) (N := 2) [.null, .int 0] tyX9 hB hK hR rfl uw_X9 tyX9_ok k_cl_X6_20 k_in_X9 k_ini_X9 df_X9 (by decide) (by decide) dX6_init_23 (fun q3 => ?_)
  refine u_dup hB dX6_init_26 rfl ?_
  refine h3_callN hB hK hR lb_X9_init rfl (hK.2.2.2.1 (RX6, 22, yX9_init, "FormsAboveNought") (List.mem_of_getElem? (i := 7) rfl)) li_X9_init (n_X9 g X.1.2.1 q3) dX6_init_27 (Nat.le_of_ble_eq_true rfl) (by decide) (by decide) (by decide) (by decide) (fun a3 => ?_)
  refine u_putF (f := 2) (ty := (.object "FormsAboveNought$Work")) tyX6 hB hK hR rfl (by decide) fw_X6_23 uw_X6 tyX6_ok nmX6 rfl rfl rfl rfl rfl (Nat.le_of_ble_eq_true rfl) dX6_init_30 ?_
  refine u_aload_n hB 0 dX6_init_33 rfl rfl ?_
  refine u_iconst hB (-1) dX6_init_34 (by decide) ?_
  refine u_put (f := 4) (ty := .int) tyX6 hB hK hR rfl (by decide) fw_X6_27 uw_X6 tyX6_ok nmX6 rfl rfl rfl rfl (Nat.le_of_ble_eq_true rfl) dX6_init_35 ?_
  refine u_iconst hB 0 dX6_init_38 (by decide) ?_
  refine u_istore_n hB [(0, .ref q0), (1, .int 0)] [1, 0] dX6_init_39 rfl (by decide) rfl ?_
  refine u_iload_n hB 1 dX6_init_40 rfl rfl ?_
  refine u_bipush hB 6 dX6_init_41 (by decide) ?_
  refine u_geN (tgt := 78) hB dX6_init_43 rfl (by decide) ?_
  refine u_aload_n hB 0 dX6_init_46 rfl rfl ?_
  refine u_get (f := 0) hB hK rfl (by decide) fw_X6_11 uw_X6 rfl dX6_init_47 ?_
  refine u_iload_n hB 1 dX6_init_50 rfl rfl ?_
  refine h3_new (ci := 1) (C := RX1) (T := TX1) (N := 4) [.null, .int 0, .int 0, .int 0] tyX1 hB hK hR rfl uw_X1 tyX1_ok k_cl_X6_9 k_in_X1 k_ini_X1 df_X1 (by decide) (by decide) dX6_init_51 (fun q4 => ?_)
  refine u_dup hB dX6_init_54 rfl ?_
  refine h3_callN hB hK hR lb_X1_init rfl (hK.2.2.2.1 (RX6, 31, yX1_init, "FormsAboveNought") (List.mem_of_getElem? (i := 8) rfl)) li_X1_init (n_X1 g X.1.2.1 q4) dX6_init_55 (Nat.le_of_ble_eq_true rfl) (by decide) (by decide) (by decide) (by decide) (fun a4 => ?_)
  refine h_ast1 (t0 := 2) (r := (RX1, TX1, 4)) hB hK rfl rfl rfl (by unfold vp_in; decide) dX6_init_58 ?_
  refine u_aload_n hB 0 dX6_init_59 rfl rfl ?_
  refine u_get (f := 1) hB hK rfl (by decide) fw_X6_17 uw_X6 rfl dX6_init_60 ?_
  refine u_iload_n hB 1 dX6_init_63 rfl rfl ?_
  refine h3_new (ci := 1) (C := RX1) (T := TX1) (N := 4) [.null, .int 0, .int 0, .int 0] tyX1 hB hK hR rfl uw_X1 tyX1_ok k_cl_X6_9 k_in_X1 k_ini_X1 df_X1 (by decide) (by decide) dX6_init_64 (fun q5 => ?_)
  refine u_dup hB dX6_init_67 rfl ?_
  refine h3_callN hB hK hR lb_X1_init rfl (hK.2.2.2.1 (RX6, 31, yX1_init, "FormsAboveNought") (List.mem_of_getElem? (i := 8) rfl)) li_X1_init (n_X1 g X.1.2.1 q5) dX6_init_68 (Nat.le_of_ble_eq_true rfl) (by decide) (by decide) (by decide) (by decide) (fun a5 => ?_)
  refine h_ast2 (t0 := 2) (r := (RX1, TX1, 4)) hB hK rfl rfl rfl (by unfold vp_in; decide) dX6_init_71 ?_
  refine u_iinc hB 1 [(0, .ref q0), (1, .int 1)] 1 [1, 0] dX6_init_72 rfl (by decide) (by decide) rfl ?_
  refine u_goto (tgt := 40) hB dX6_init_75 rfl ?_
  refine u_iload_n hB 1 dX6_init_40 rfl rfl ?_
  refine u_bipush hB 6 dX6_init_41 (by decide) ?_
  refine u_geN (tgt := 78) hB dX6_init_43 rfl (by decide) ?_
  refine u_aload_n hB 0 dX6_init_46 rfl rfl ?_
  refine u_get (f := 0) hB hK rfl (by decide) fw_X6_11 uw_X6 rfl dX6_init_47 ?_
  refine u_iload_n hB 1 dX6_init_50 rfl rfl ?_
  refine h3_new (ci := 1) (C := RX1) (T := TX1) (N := 4) [.null, .int 0, .int 0, .int 0] tyX1 hB hK hR rfl uw_X1 tyX1_ok k_cl_X6_9 k_in_X1 k_ini_X1 df_X1 (by decide) (by decide) dX6_init_51 (fun q6 => ?_)
  refine u_dup hB dX6_init_54 rfl ?_
  refine h3_callN hB hK hR lb_X1_init rfl (hK.2.2.2.1 (RX6, 31, yX1_init, "FormsAboveNought") (List.mem_of_getElem? (i := 8) rfl)) li_X1_init (n_X1 g X.1.2.1 q6) dX6_init_55 (Nat.le_of_ble_eq_true rfl) (by decide) (by decide) (by decide) (by decide) (fun a6 => ?_)
  refine h_ast1 (t0 := 2) (r := (RX1, TX1, 4)) hB hK rfl rfl rfl (by unfold vp_in; decide) dX6_init_58 ?_
  refine u_aload_n hB 0 dX6_init_59 rfl rfl ?_
  refine u_get (f := 1) hB hK rfl (by decide) fw_X6_17 uw_X6 rfl dX6_init_60 ?_
  refine u_iload_n hB 1 dX6_init_63 rfl rfl ?_
  refine h3_new (ci := 1) (C := RX1) (T := TX1) (N := 4) [.null, .int 0, .int 0, .int 0] tyX1 hB hK hR rfl uw_X1 tyX1_ok k_cl_X6_9 k_in_X1 k_ini_X1 df_X1 (by decide) (by decide) dX6_init_64 (fun q7 => ?_)
  refine u_dup hB dX6_init_67 rfl ?_
  refine h3_callN hB hK hR lb_X1_init rfl (hK.2.2.2.1 (RX6, 31, yX1_init, "FormsAboveNought") (List.mem_of_getElem? (i := 8) rfl)) li_X1_init (n_X1 g X.1.2.1 q7) dX6_init_68 (Nat.le_of_ble_eq_true rfl) (by decide) (by decide) (by decide) (by decide) (fun a7 => ?_)
  refine h_ast2 (t0 := 2) (r := (RX1, TX1, 4)) hB hK rfl rfl rfl (by unfold vp_in; decide) dX6_init_71 ?_
  refine u_iinc hB 2 [(0, .ref q0), (1, .int 2)] 1 [1, 0] dX6_init_72 rfl (by decide) (by decide) rfl ?_
  refine u_goto (tgt := 40) hB dX6_init_75 rfl ?_
  refine u_iload_n hB 1 dX6_init_40 rfl rfl ?_
  refine u_bipush hB 6 dX6_init_41 (by decide) ?_
  refine u_geN (tgt := 78) hB dX6_init_43 rfl (by decide) ?_
  refine u_aload_n hB 0 dX6_init_46 rfl rfl ?_
  refine u_get (f := 0) hB hK rfl (by decide) fw_X6_11 uw_X6 rfl dX6_init_47 ?_
  refine u_iload_n hB 1 dX6_init_50 rfl rfl ?_
  refine h3_new (ci := 1) (C := RX1) (T := TX1) (N := 4) [.null, .int 0, .int 0, .int 0] tyX1 hB hK hR rfl uw_X1 tyX1_ok k_cl_X6_9 k_in_X1 k_ini_X1 df_X1 (by decide) (by decide) dX6_init_51 (fun q8 => ?_)
  refine u_dup hB dX6_init_54 rfl ?_
  refine h3_callN hB hK hR lb_X1_init rfl (hK.2.2.2.1 (RX6, 31, yX1_init, "FormsAboveNought") (List.mem_of_getElem? (i := 8) rfl)) li_X1_init (n_X1 g X.1.2.1 q8) dX6_init_55 (Nat.le_of_ble_eq_true rfl) (by decide) (by decide) (by decide) (by decide) (fun a8 => ?_)
  refine h_ast1 (t0 := 2) (r := (RX1, TX1, 4)) hB hK rfl rfl rfl (by unfold vp_in; decide) dX6_init_58 ?_
  refine u_aload_n hB 0 dX6_init_59 rfl rfl ?_
  refine u_get (f := 1) hB hK rfl (by decide) fw_X6_17 uw_X6 rfl dX6_init_60 ?_
  refine u_iload_n hB 1 dX6_init_63 rfl rfl ?_
  refine h3_new (ci := 1) (C := RX1) (T := TX1) (N := 4) [.null, .int 0, .int 0, .int 0] tyX1 hB hK hR rfl uw_X1 tyX1_ok k_cl_X6_9 k_in_X1 k_ini_X1 df_X1 (by decide) (by decide) dX6_init_64 (fun q9 => ?_)
  refine u_dup hB dX6_init_67 rfl ?_
  refine h3_callN hB hK hR lb_X1_init rfl (hK.2.2.2.1 (RX6, 31, yX1_init, "FormsAboveNought") (List.mem_of_getElem? (i := 8) rfl)) li_X1_init (n_X1 g X.1.2.1 q9) dX6_init_68 (Nat.le_of_ble_eq_true rfl) (by decide) (by decide) (by decide) (by decide) (fun a9 => ?_)
  refine h_ast2 (t0 := 2) (r := (RX1, TX1, 4)) hB hK rfl rfl rfl (by unfold vp_in; decide) dX6_init_71 ?_
  refine u_iinc hB 3 [(0, .ref q0), (1, .int 3)] 1 [1, 0] dX6_init_72 rfl (by decide) (by decide) rfl ?_
  refine u_goto (tgt := 40) hB dX6_init_75 rfl ?_
  refine u_iload_n hB 1 dX6_init_40 rfl rfl ?_
  refine u_bipush hB 6 dX6_init_41 (by decide) ?_
  refine u_geN (tgt := 78) hB dX6_init_43 rfl (by decide) ?_
  refine u_aload_n hB 0 dX6_init_46 rfl rfl ?_
  refine u_get (f := 0) hB hK rfl (by decide) fw_X6_11 uw_X6 rfl dX6_init_47 ?_
  refine u_iload_n hB 1 dX6_init_50 rfl rfl ?_
  refine h3_new (ci := 1) (C := RX1) (T := TX1) (N := 4) [.null, .int 0, .int 0, .int 0] tyX1 hB hK hR rfl uw_X1 tyX1_ok k_cl_X6_9 k_in_X1 k_ini_X1 df_X1 (by decide) (by decide) dX6_init_51 (fun q10 => ?_)
  refine u_dup hB dX6_init_54 rfl ?_
  refine h3_callN hB hK hR lb_X1_init rfl (hK.2.2.2.1 (RX6, 31, yX1_init, "FormsAboveNought") (List.mem_of_getElem? (i := 8) rfl)) li_X1_init (n_X1 g X.1.2.1 q10) dX6_init_55 (Nat.le_of_ble_eq_true rfl) (by decide) (by decide) (by decide) (by decide) (fun a10 => ?_)
  refine h_ast1 (t0 := 2) (r := (RX1, TX1, 4)) hB hK rfl rfl rfl (by unfold vp_in; decide) dX6_init_58 ?_
  refine u_aload_n hB 0 dX6_init_59 rfl rfl ?_
  refine u_get (f := 1) hB hK rfl (by decide) fw_X6_17 uw_X6 rfl dX6_init_60 ?_
  refine u_iload_n hB 1 dX6_init_63 rfl rfl ?_
  refine h3_new (ci := 1) (C := RX1) (T := TX1) (N := 4) [.null, .int 0, .int 0, .int 0] tyX1 hB hK hR rfl uw_X1 tyX1_ok k_cl_X6_9 k_in_X1 k_ini_X1 df_X1 (by decide) (by decide) dX6_init_64 (fun q11 => ?_)
  refine u_dup hB dX6_init_67 rfl ?_
  refine h3_callN hB hK hR lb_X1_init rfl (hK.2.2.2.1 (RX6, 31, yX1_init, "FormsAboveNought") (List.mem_of_getElem? (i := 8) rfl)) li_X1_init (n_X1 g X.1.2.1 q11) dX6_init_68 (Nat.le_of_ble_eq_true rfl) (by decide) (by decide) (by decide) (by decide) (fun a11 => ?_)
  refine h_ast2 (t0 := 2) (r := (RX1, TX1, 4)) hB hK rfl rfl rfl (by unfold vp_in; decide) dX6_init_71 ?_
  refine u_iinc hB 4 [(0, .ref q0), (1, .int 4)] 1 [1, 0] dX6_init_72 rfl (by decide) (by decide) rfl ?_
  refine u_goto (tgt := 40) hB dX6_init_75 rfl ?_
  refine u_iload_n hB 1 dX6_init_40 rfl rfl ?_
  refine u_bipush hB 6 dX6_init_41 (by decide) ?_
  refine u_geN (tgt := 78) hB dX6_init_43 rfl (by decide) ?_
  refine u_aload_n hB 0 dX6_init_46 rfl rfl ?_
  refine u_get (f := 0) hB hK rfl (by decide) fw_X6_11 uw_X6 rfl dX6_init_47 ?_
  refine u_iload_n hB 1 dX6_init_50 rfl rfl ?_
  refine h3_new (ci := 1) (C := RX1) (T := TX1) (N := 4) [.null, .int 0, .int 0, .int 0] tyX1 hB hK hR rfl uw_X1 tyX1_ok k_cl_X6_9 k_in_X1 k_ini_X1 df_X1 (by decide) (by decide) dX6_init_51 (fun q12 => ?_)
  refine u_dup hB dX6_init_54 rfl ?_
  refine h3_callN hB hK hR lb_X1_init rfl (hK.2.2.2.1 (RX6, 31, yX1_init, "FormsAboveNought") (List.mem_of_getElem? (i := 8) rfl)) li_X1_init (n_X1 g X.1.2.1 q12) dX6_init_55 (Nat.le_of_ble_eq_true rfl) (by decide) (by decide) (by decide) (by decide) (fun a12 => ?_)
  refine h_ast1 (t0 := 2) (r := (RX1, TX1, 4)) hB hK rfl rfl rfl (by unfold vp_in; decide) dX6_init_58 ?_
  refine u_aload_n hB 0 dX6_init_59 rfl rfl ?_
  refine u_get (f := 1) hB hK rfl (by decide) fw_X6_17 uw_X6 rfl dX6_init_60 ?_
  refine u_iload_n hB 1 dX6_init_63 rfl rfl ?_
  refine h3_new (ci := 1) (C := RX1) (T := TX1) (N := 4) [.null, .int 0, .int 0, .int 0] tyX1 hB hK hR rfl uw_X1 tyX1_ok k_cl_X6_9 k_in_X1 k_ini_X1 df_X1 (by decide) (by decide) dX6_init_64 (fun q13 => ?_)
  refine u_dup hB dX6_init_67 rfl ?_
  refine h3_callN hB hK hR lb_X1_init rfl (hK.2.2.2.1 (RX6, 31, yX1_init, "FormsAboveNought") (List.mem_of_getElem? (i := 8) rfl)) li_X1_init (n_X1 g X.1.2.1 q13) dX6_init_68 (Nat.le_of_ble_eq_true rfl) (by decide) (by decide) (by decide) (by decide) (fun a13 => ?_)
  refine h_ast2 (t0 := 2) (r := (RX1, TX1, 4)) hB hK rfl rfl rfl (by unfold vp_in; decide) dX6_init_71 ?_
  refine u_iinc hB 5 [(0, .ref q0), (1, .int 5)] 1 [1, 0] dX6_init_72 rfl (by decide) (by decide) rfl ?_
  refine u_goto (tgt := 40) hB dX6_init_75 rfl ?_
  refine u_iload_n hB 1 dX6_init_40 rfl rfl ?_
  refine u_bipush hB 6 dX6_init_41 (by decide) ?_
  refine u_geN (tgt := 78) hB dX6_init_43 rfl (by decide) ?_
  refine u_aload_n hB 0 dX6_init_46 rfl rfl ?_
  refine u_get (f := 0) hB hK rfl (by decide) fw_X6_11 uw_X6 rfl dX6_init_47 ?_
  refine u_iload_n hB 1 dX6_init_50 rfl rfl ?_
  refine h3_new (ci := 1) (C := RX1) (T := TX1) (N := 4) [.null, .int 0, .int 0, .int 0] tyX1 hB hK hR rfl uw_X1 tyX1_ok k_cl_X6_9 k_in_X1 k_ini_X1 df_X1 (by decide) (by decide) dX6_init_51 (fun q14 => ?_)
  refine u_dup hB dX6_init_54 rfl ?_
  refine h3_callN hB hK hR lb_X1_init rfl (hK.2.2.2.1 (RX6, 31, yX1_init, "FormsAboveNought") (List.mem_of_getElem? (i := 8) rfl)) li_X1_init (n_X1 g X.1.2.1 q14) dX6_init_55 (Nat.le_of_ble_eq_true rfl) (by decide) (by decide) (by decide) (by decide) (fun a14 => ?_)
  refine h_ast1 (t0 := 2) (r := (RX1, TX1, 4)) hB hK rfl rfl rfl (by unfold vp_in; decide) dX6_init_58 ?_
  refine u_aload_n hB 0 dX6_init_59 rfl rfl ?_
  refine u_get (f := 1) hB hK rfl (by decide) fw_X6_17 uw_X6 rfl dX6_init_60 ?_
  refine u_iload_n hB 1 dX6_init_63 rfl rfl ?_
  refine h3_new (ci := 1) (C := RX1) (T := TX1) (N := 4) [.null, .int 0, .int 0, .int 0] tyX1 hB hK hR rfl uw_X1 tyX1_ok k_cl_X6_9 k_in_X1 k_ini_X1 df_X1 (by decide) (by decide) dX6_init_64 (fun q15 => ?_)
  refine u_dup hB dX6_init_67 rfl ?_
  refine h3_callN hB hK hR lb_X1_init rfl (hK.2.2.2.1 (RX6, 31, yX1_init, "FormsAboveNought") (List.mem_of_getElem? (i := 8) rfl)) li_X1_init (n_X1 g X.1.2.1 q15) dX6_init_68 (Nat.le_of_ble_eq_true rfl) (by decide) (by decide) (by decide) (by decide) (fun a15 => ?_)
  refine h_ast2 (t0 := 2) (r := (RX1, TX1, 4)) hB hK rfl rfl rfl (by unfold vp_in; decide) dX6_init_71 ?_
  refine u_iinc hB 6 [(0, .ref q0), (1, .int 6)] 1 [1, 0] dX6_init_72 rfl (by decide) (by decide) rfl ?_
  refine u_goto (tgt := 40) hB dX6_init_75 rfl ?_
  refine u_iload_n hB 1 dX6_init_40 rfl rfl ?_
  refine u_bipush hB 6 dX6_init_41 (by decide) ?_
  refine u_geY (tgt := 78) hB dX6_init_43 rfl (by decide) ?_
  exact u_vret (fun i => ([q1, q2, q3, a3 0, q4, a4 0, q5, a5 0, q6, a6 0, q7, a7 0, q8, a8 0, q9, a9 0, q10, a10 0, q11, a11 0, q12, a12 0, q13, a13 0, q14, a14 0, q15, a15 0] : List Nat).getD i 0) hB hK hR rfl (by decide) (by decide) dX6_init_78
theorem dX10_init_0 : decode cX10_init 0 = .ok (.aload_n 0, 1) := by decide +kernel
theorem dX10_init_1 : decode cX10_init 1 = .ok (.invokespecial 1, 3) := by decide +kernel
theorem dX10_init_4 : decode cX10_init 4 = .ok (.aload_n 0, 1) := by decide +kernel
theorem dX10_init_5 : decode cX10_init 5 = .ok (.new 7, 3) := by decide +kernel
theorem dX10_init_8 : decode cX10_init 8 = .ok (.dup, 1) := by decide +kernel
theorem dX10_init_9 : decode cX10_init 9 = .ok (.invokespecial 9, 3) := by decide +kernel
theorem dX10_init_12 : decode cX10_init 12 = .ok (.putfield 10, 3) := by decide +kernel
theorem dX10_init_15 : decode cX10_init 15 = .ok (.aload_n 0, 1) := by decide +kernel
theorem dX10_init_16 : decode cX10_init 16 = .ok (.new 16, 3) := by decide +kernel
theorem dX10_init_19 : decode cX10_init 19 = .ok (.dup, 1) := by decide +kernel
theorem dX10_init_20 : decode cX10_init 20 = .ok (.invokespecial 18, 3) := by decide +kernel
theorem dX10_init_23 : decode cX10_init 23 = .ok (.putfield 19, 3) := by decide +kernel
theorem dX10_init_26 : decode cX10_init 26 = .ok (.aload_n 0, 1) := by decide +kernel
theorem dX10_init_27 : decode cX10_init 27 = .ok (.new 23, 3) := by decide +kernel
theorem dX10_init_30 : decode cX10_init 30 = .ok (.dup, 1) := by decide +kernel
theorem dX10_init_31 : decode cX10_init 31 = .ok (.invokespecial 25, 3) := by decide +kernel
theorem dX10_init_34 : decode cX10_init 34 = .ok (.putfield 26, 3) := by decide +kernel
theorem dX10_init_37 : decode cX10_init 37 = .ok (.aload_n 0, 1) := by decide +kernel
theorem dX10_init_38 : decode cX10_init 38 = .ok (.new 30, 3) := by decide +kernel
theorem dX10_init_41 : decode cX10_init 41 = .ok (.dup, 1) := by decide +kernel
theorem dX10_init_42 : decode cX10_init 42 = .ok (.invokespecial 32, 3) := by decide +kernel
theorem dX10_init_45 : decode cX10_init 45 = .ok (.putfield 33, 3) := by decide +kernel
theorem dX10_init_48 : decode cX10_init 48 = .ok (.aload_n 0, 1) := by decide +kernel
theorem dX10_init_49 : decode cX10_init 49 = .ok (.new 37, 3) := by decide +kernel
theorem dX10_init_52 : decode cX10_init 52 = .ok (.dup, 1) := by decide +kernel
theorem dX10_init_53 : decode cX10_init 53 = .ok (.invokespecial 39, 3) := by decide +kernel
theorem dX10_init_56 : decode cX10_init 56 = .ok (.putfield 40, 3) := by decide +kernel
theorem dX10_init_59 : decode cX10_init 59 = .ok (.aload_n 0, 1) := by decide +kernel
theorem dX10_init_60 : decode cX10_init 60 = .ok (.new 44, 3) := by decide +kernel
theorem dX10_init_63 : decode cX10_init 63 = .ok (.dup, 1) := by decide +kernel
theorem dX10_init_64 : decode cX10_init 64 = .ok (.invokespecial 46, 3) := by decide +kernel
theorem dX10_init_67 : decode cX10_init 67 = .ok (.putfield 47, 3) := by decide +kernel
theorem dX10_init_70 : decode cX10_init 70 = .ok (.aload_n 0, 1) := by decide +kernel
theorem dX10_init_71 : decode cX10_init 71 = .ok (.new 51, 3) := by decide +kernel
theorem dX10_init_74 : decode cX10_init 74 = .ok (.dup, 1) := by decide +kernel
theorem dX10_init_75 : decode cX10_init 75 = .ok (.invokespecial 53, 3) := by decide +kernel
theorem dX10_init_78 : decode cX10_init 78 = .ok (.putfield 54, 3) := by decide +kernel
theorem dX10_init_81 : decode cX10_init 81 = .ok (.aload_n 0, 1) := by decide +kernel
theorem dX10_init_82 : decode cX10_init 82 = .ok (.new 58, 3) := by decide +kernel
theorem dX10_init_85 : decode cX10_init 85 = .ok (.dup, 1) := by decide +kernel
theorem dX10_init_86 : decode cX10_init 86 = .ok (.invokespecial 60, 3) := by decide +kernel
theorem dX10_init_89 : decode cX10_init 89 = .ok (.putfield 61, 3) := by decide +kernel
theorem dX10_init_92 : decode cX10_init 92 = .ok (.aload_n 0, 1) := by decide +kernel
theorem dX10_init_93 : decode cX10_init 93 = .ok (.bipush 7, 2) := by decide +kernel
theorem dX10_init_95 : decode cX10_init 95 = .ok (.newarray .int, 2) := by decide +kernel
theorem dX10_init_97 : decode cX10_init 97 = .ok (.putfield 65, 3) := by decide +kernel
theorem dX10_init_100 : decode cX10_init 100 = .ok (.return_, 1) := by decide +kernel
set_option maxRecDepth 8000 in
theorem k_lo_X10_1 : Cond.methodLink RX10 1 Lib.objectInit ∈ pq_G := pq_t1 24 rfl rfl
set_option maxRecDepth 8000 in
theorem ln_X10_9 : Cond.methodLink RX10 9 yX6_init ∈ pq_G := pq_t1 29 rfl rfl
set_option maxRecDepth 8000 in
theorem fw_X10_10 : Cond.fieldLink RX10 10 (TX10 0).1 (TX10 0).2.1 (TX10 0).2.2.1 ∈ pq_G := pq_t2 21 rfl rfl
set_option maxRecDepth 8000 in
theorem fw_X10_19 : Cond.fieldLink RX10 19 (TX10 1).1 (TX10 1).2.1 (TX10 1).2.2.1 ∈ pq_G := pq_t2 22 rfl rfl
set_option maxRecDepth 8000 in
theorem fw_X10_26 : Cond.fieldLink RX10 26 (TX10 2).1 (TX10 2).2.1 (TX10 2).2.2.1 ∈ pq_G := pq_t2 23 rfl rfl
set_option maxRecDepth 8000 in
theorem fw_X10_33 : Cond.fieldLink RX10 33 (TX10 3).1 (TX10 3).2.1 (TX10 3).2.2.1 ∈ pq_G := pq_t2 24 rfl rfl
set_option maxRecDepth 8000 in
theorem fw_X10_40 : Cond.fieldLink RX10 40 (TX10 4).1 (TX10 4).2.1 (TX10 4).2.2.1 ∈ pq_G := pq_t2 25 rfl rfl
set_option maxRecDepth 8000 in
theorem fw_X10_47 : Cond.fieldLink RX10 47 (TX10 5).1 (TX10 5).2.1 (TX10 5).2.2.1 ∈ pq_G := pq_t2 26 rfl rfl
set_option maxRecDepth 8000 in
theorem fw_X10_54 : Cond.fieldLink RX10 54 (TX10 6).1 (TX10 6).2.1 (TX10 6).2.2.1 ∈ pq_G := pq_t2 27 rfl rfl
set_option maxRecDepth 8000 in
theorem fw_X10_61 : Cond.fieldLink RX10 61 (TX10 7).1 (TX10 7).2.1 (TX10 7).2.2.1 ∈ pq_G := pq_t2 28 rfl rfl
set_option maxRecDepth 8000 in
theorem fw_X10_65 : Cond.fieldLink RX10 65 (TX10 8).1 (TX10 8).2.1 (TX10 8).2.2.1 ∈ pq_G := pq_t2 29 rfl rfl
def W_X10 (g : pq_g) (q0 : Nat) (a : Nat → Nat) : va_W := [(q0, .inr (10, [.ref (a 0), .ref (a 29), .ref (a 31), .ref (a 33), .ref (a 38), .ref (a 39), .ref (a 70), .ref (a 75), .ref (a 81)])), (a 0, .inr (6, [.ref ((a 1)), .ref ((a 2)), .ref ((a 3)), .int 0, .int (-1)])), (a 1, .inl (g.2.2.1 2, 6, .inr (.inr (.inr (.inr (va_up (va_up (va_up (va_up (va_up (va_up (fun _ => none) 0 (some ((a 5)))) 1 (some ((a 9)))) 2 (some ((a 13)))) 3 (some ((a 17)))) 4 (some ((a 21)))) 5 (some ((a 25))))))))), (a 2, .inl (g.2.2.1 2, 6, .inr (.inr (.inr (.inr (va_up (va_up (va_up (va_up (va_up (va_up (fun _ => none) 0 (some ((a 7)))) 1 (some ((a 11)))) 2 (some ((a 15)))) 3 (some ((a 19)))) 4 (some ((a 23)))) 5 (some ((a 27))))))))), (a 3, .inr (9, [.ref (((a 4))), .int 0])), (a 4, .inl (g.2.2.1 1, 190, .inr (.inl (fun _ => 0)))), (a 5, .inr (1, [.ref (((a 6))), .int 0, .int 0, .int 0])), (a 6, .inl (g.2.2.1 0, 28, .inl (fun _ => 0))), (a 7, .inr (1, [.ref (((a 8))), .int 0, .int 0, .int 0])), (a 8, .inl (g.2.2.1 0, 28, .inl (fun _ => 0))), (a 9, .inr (1, [.ref (((a 10))), .int 0, .int 0, .int 0])), (a 10, .inl (g.2.2.1 0, 28, .inl (fun _ => 0))), (a 11, .inr (1, [.ref (((a 12))), .int 0, .int 0, .int 0])), (a 12, .inl (g.2.2.1 0, 28, .inl (fun _ => 0))), (a 13, .inr (1, [.ref (((a 14))), .int 0, .int 0, .int 0])), (a 14, .inl (g.2.2.1 0, 28, .inl (fun _ => 0))), (a 15, .inr (1, [.ref (((a 16))), .int 0, .int 0, .int 0])), (a 16, .inl (g.2.2.1 0, 28, .inl (fun _ => 0))), (a 17, .inr (1, [.ref (((a 18))), .int 0, .int 0, .int 0])), (a 18, .inl (g.2.2.1 0, 28, .inl (fun _ => 0))), (a 19, .inr (1, [.ref (((a 20))), .int 0, .int 0, .int 0])), (a 20, .inl (g.2.2.1 0, 28, .inl (fun _ => 0))), (a 21, .inr (1, [.ref (((a 22))), .int 0, .int 0, .int 0])), (a 22, .inl (g.2.2.1 0, 28, .inl (fun _ => 0))), (a 23, .inr (1, [.ref (((a 24))), .int 0, .int 0, .int 0])), (a 24, .inl (g.2.2.1 0, 28, .inl (fun _ => 0))), (a 25, .inr (1, [.ref (((a 26))), .int 0, .int 0, .int 0])), (a 26, .inl (g.2.2.1 0, 28, .inl (fun _ => 0))), (a 27, .inr (1, [.ref (((a 28))), .int 0, .int 0, .int 0])), (a 28, .inl (g.2.2.1 0, 28, .inl (fun _ => 0))), (a 29, .inr (3, [.ref ((a 30)), .int 0])), (a 30, .inl (g.2.2.1 0, 72, .inl (fun _ => 0))), (a 31, .inr (2, [.ref ((a 32)), .null, .int 0, .int 0, .int 0])), (a 32, .inl (g.2.2.1 0, 3, .inl (fun _ => 0))), (a 33, .inr (0, [.ref ((a 34)), .ref ((a 35)), .ref ((a 36)), .ref ((a 37)), .int 0, .null, .int 0])), (a 34, .inl (g.2.2.1 0, 9, .inl (fun _ => 0))), (a 35, .inl (g.2.2.1 0, 9, .inl (fun _ => 0))), (a 36, .inl (g.2.2.1 0, 9, .inl (fun _ => 0))), (a 37, .inl (g.2.2.1 0, 9, .inl (fun _ => 0))), (a 38, .inr (7, [.int 0, .int 0, .int 0])), (a 39, .inr (5, [.ref ((a 40)), .ref ((a 69)), .int 0, .int 0])), (a 40, .inl (g.2.2.1 4, 28, .inr (.inr (.inr (.inr (fun i => if i < 28 then some (a (40 + (1 + i))) else none)))))), (a 41, .inl (g.2.2.1 1, 4, .inr (.inl (fun _ => 0)))), (a 42, .inl (g.2.2.1 1, 4, .inr (.inl (fun _ => 0)))), (a 43, .inl (g.2.2.1 1, 4, .inr (.inl (fun _ => 0)))), (a 44, .inl (g.2.2.1 1, 4, .inr (.inl (fun _ => 0)))), (a 45, .inl (g.2.2.1 1, 4, .inr (.inl (fun _ => 0)))), (a 46, .inl (g.2.2.1 1, 4, .inr (.inl (fun _ => 0)))), (a 47, .inl (g.2.2.1 1, 4, .inr (.inl (fun _ => 0)))), (a 48, .inl (g.2.2.1 1, 4, .inr (.inl (fun _ => 0)))), (a 49, .inl (g.2.2.1 1, 4, .inr (.inl (fun _ => 0)))), (a 50, .inl (g.2.2.1 1, 4, .inr (.inl (fun _ => 0)))), (a 51, .inl (g.2.2.1 1, 4, .inr (.inl (fun _ => 0)))), (a 52, .inl (g.2.2.1 1, 4, .inr (.inl (fun _ => 0)))), (a 53, .inl (g.2.2.1 1, 4, .inr (.inl (fun _ => 0)))), (a 54, .inl (g.2.2.1 1, 4, .inr (.inl (fun _ => 0)))), (a 55, .inl (g.2.2.1 1, 4, .inr (.inl (fun _ => 0)))), (a 56, .inl (g.2.2.1 1, 4, .inr (.inl (fun _ => 0)))), (a 57, .inl (g.2.2.1 1, 4, .inr (.inl (fun _ => 0)))), (a 58, .inl (g.2.2.1 1, 4, .inr (.inl (fun _ => 0)))), (a 59, .inl (g.2.2.1 1, 4, .inr (.inl (fun _ => 0)))), (a 60, .inl (g.2.2.1 1, 4, .inr (.inl (fun _ => 0)))), (a 61, .inl (g.2.2.1 1, 4, .inr (.inl (fun _ => 0)))), (a 62, .inl (g.2.2.1 1, 4, .inr (.inl (fun _ => 0)))), (a 63, .inl (g.2.2.1 1, 4, .inr (.inl (fun _ => 0)))), (a 64, .inl (g.2.2.1 1, 4, .inr (.inl (fun _ => 0)))), (a 65, .inl (g.2.2.1 1, 4, .inr (.inl (fun _ => 0)))), (a 66, .inl (g.2.2.1 1, 4, .inr (.inl (fun _ => 0)))), (a 67, .inl (g.2.2.1 1, 4, .inr (.inl (fun _ => 0)))), (a 68, .inl (g.2.2.1 1, 4, .inr (.inl (fun _ => 0)))), (a 69, .inl (g.2.2.1 0, 3, .inl (fun _ => 0))), (a 70, .inr (8, [.int 0, .ref ((a 71)), .ref ((a 72)), .ref ((a 73)), .ref ((a 74)), .int 0])), (a 71, .inl (g.2.2.1 0, 16, .inl (fun _ => 0))), (a 72, .inl (g.2.2.1 0, 16, .inl (fun _ => 0))), (a 73, .inl (g.2.2.1 0, 16, .inl (fun _ => 0))), (a 74, .inl (g.2.2.1 0, 16, .inl (fun _ => 0))), (a 75, .inr (4, [.ref ((a 76)), .ref ((a 80))])), (a 76, .inl (g.2.2.1 3, 3, .inr (.inr (.inr (.inr (fun i => if i < 3 then some (a (76 + (1 + i))) else none)))))), (a 77, .inl (g.2.2.1 0, 40, .inl (fun _ => 0))), (a 78, .inl (g.2.2.1 0, 40, .inl (fun _ => 0))), (a 79, .inl (g.2.2.1 0, 40, .inl (fun _ => 0))), (a 80, .inl (g.2.2.1 0, 3, .inl (upd (upd (upd (fun _ => 0) 0 (-1)) 1 (-1)) 2 (-1)))), (a 81, .inl (g.2.2.1 0, 7, .inl (fun _ => 0)))]
set_option maxRecDepth 8000 in
theorem lb_X10_init : pq_LB yX10_init cX10_init 1 none 0 := ⟨pq_t1 1 rfl rfl, pq_t1 23 rfl rfl, by decide +kernel, by decide +kernel, by decide +kernel⟩
set_option maxRecDepth 8000 in
theorem li_X10_init : Cond.instanceMethod yX10_init ∈ pq_G := pq_t1 22 rfl rfl
set_option maxRecDepth 100000 in
set_option maxHeartbeats 4000000 in
theorem n_X10 (g : pq_g) (l : Launch) (q0 : Nat) : pq_N (g.2.1, vwCl, pq_tys g) l yX10_init cX10_init 1 3 61 82 1073 q0 (.inr (10, [.null, .null, .null, .null, .null, .null, .null, .null, .null])) (W_X10 g q0) := by
  refine pq_metI l (own := RX10) 3 61 82 1073 q0 _ _ (by decide +kernel) rfl rfl (by decide) (fun X hXl hB hK hR => ?_)
  refine u_aload_n hB 0 dX10_init_0 rfl rfl ?_
  refine u_obj hB hR k_lo_X10_1 k_oi k_oc (by decide) (Nat.le_of_ble_eq_true rfl) dX10_init_1 ?_
  refine u_aload_n hB 0 dX10_init_4 rfl rfl ?_
  refine h_new (ci := 6) (C := RX6) (T := TX6) (N := 5) [.null, .null, .null, .int 0, .int 0] tyX6 hB hK hR rfl uw_X6 tyX6_ok k_cl_X10_7 k_in_X6 k_ini_X6 df_X6 (by decide) (by decide) dX10_init_5 (fun q1 => ?_)
  refine u_dup hB dX10_init_8 rfl ?_
  refine h_call hB hK hR lb_X6_init rfl ⟨ln_X10_9, li_X6_init⟩ (n_X6 g X.1.2.1 q1) dX10_init_9 (Nat.le_of_ble_eq_true rfl) (by decide) (by decide) (by decide) (by decide) (fun a1 => ?_)
  refine u_putF (f := 0) (ty := (.object "FormsAboveNought$Shelf")) tyX10 hB hK hR rfl (by decide) fw_X10_10 uw_X10 tyX10_ok nmX10 rfl rfl rfl rfl rfl (Nat.le_of_ble_eq_true rfl) dX10_init_12 ?_
  refine u_aload_n hB 0 dX10_init_15 rfl rfl ?_
  refine h_new (ci := 3) (C := RX3) (T := TX3) (N := 2) [.null, .int 0] tyX3 hB hK hR rfl uw_X3 tyX3_ok k_cl_X10_16 k_in_X3 k_ini_X3 df_X3 (by decide) (by decide) dX10_init_16 (fun q2 => ?_)
  refine u_dup hB dX10_init_19 rfl ?_
  refine h_callN hB hK hR lb_X3_init rfl (hK.2.2.2.1 (RX10, 18, yX3_init, "FormsAboveNought") (List.mem_of_getElem? (i := 0) rfl)) li_X3_init (n_X3 g X.1.2.1 q2) dX10_init_20 (Nat.le_of_ble_eq_true rfl) (by decide) (by decide) (by decide) (by decide) (fun a2 => ?_)
  refine u_putF (f := 1) (ty := (.object "FormsAboveNought$Letters")) tyX10 hB hK hR rfl (by decide) fw_X10_19 uw_X10 tyX10_ok nmX10 rfl rfl rfl rfl rfl (Nat.le_of_ble_eq_true rfl) dX10_init_23 ?_
  refine u_aload_n hB 0 dX10_init_26 rfl rfl ?_
  refine h_new (ci := 2) (C := RX2) (T := TX2) (N := 5) [.null, .null, .int 0, .int 0, .int 0] tyX2 hB hK hR rfl uw_X2 tyX2_ok k_cl_X10_23 k_in_X2 k_ini_X2 df_X2 (by decide) (by decide) dX10_init_27 (fun q3 => ?_)
  refine u_dup hB dX10_init_30 rfl ?_
  refine h_callN hB hK hR lb_X2_init rfl (hK.2.2.2.1 (RX10, 25, yX2_init, "FormsAboveNought") (List.mem_of_getElem? (i := 1) rfl)) li_X2_init (n_X2 g X.1.2.1 q3) dX10_init_31 (Nat.le_of_ble_eq_true rfl) (by decide) (by decide) (by decide) (by decide) (fun a3 => ?_)
  refine u_putF (f := 2) (ty := (.object "FormsAboveNought$FormReader")) tyX10 hB hK hR rfl (by decide) fw_X10_26 uw_X10 tyX10_ok nmX10 rfl rfl rfl rfl rfl (Nat.le_of_ble_eq_true rfl) dX10_init_34 ?_
  refine u_aload_n hB 0 dX10_init_37 rfl rfl ?_
  refine h_new (ci := 0) (C := RX0) (T := TX0) (N := 7) [.null, .null, .null, .null, .int 0, .null, .int 0] tyX0 hB hK hR rfl uw_X0 tyX0_ok k_cl_X10_30 k_in_X0 k_ini_X0 df_X0 (by decide) (by decide) dX10_init_38 (fun q4 => ?_)
  refine u_dup hB dX10_init_41 rfl ?_
  refine h_callN hB hK hR lb_X0_init rfl (hK.2.2.2.1 (RX10, 32, yX0_init, "FormsAboveNought") (List.mem_of_getElem? (i := 2) rfl)) li_X0_init (n_X0 g X.1.2.1 q4) dX10_init_42 (Nat.le_of_ble_eq_true rfl) (by decide) (by decide) (by decide) (by decide) (fun a4 => ?_)
  refine u_putF (f := 3) (ty := (.object "FormsAboveNought$ActReader")) tyX10 hB hK hR rfl (by decide) fw_X10_33 uw_X10 tyX10_ok nmX10 rfl rfl rfl rfl rfl (Nat.le_of_ble_eq_true rfl) dX10_init_45 ?_
  refine u_aload_n hB 0 dX10_init_48 rfl rfl ?_
  refine h_new (ci := 7) (C := RX7) (T := TX7) (N := 3) [.int 0, .int 0, .int 0] tyX7 hB hK hR rfl uw_X7 tyX7_ok k_cl_X10_37 k_in_X7 k_ini_X7 df_X7 (by decide) (by decide) dX10_init_49 (fun q5 => ?_)
  refine u_dup hB dX10_init_52 rfl ?_
  refine h_callN hB hK hR lb_X7_init rfl (hK.2.2.2.1 (RX10, 39, yX7_init, "FormsAboveNought") (List.mem_of_getElem? (i := 3) rfl)) li_X7_init (n_X7 g X.1.2.1 q5) dX10_init_53 (Nat.le_of_ble_eq_true rfl) (by decide) (by decide) (by decide) (by decide) (fun a5 => ?_)
  refine u_putF (f := 4) (ty := (.object "FormsAboveNought$Speller")) tyX10 hB hK hR rfl (by decide) fw_X10_40 uw_X10 tyX10_ok nmX10 rfl rfl rfl rfl rfl (Nat.le_of_ble_eq_true rfl) dX10_init_56 ?_
  refine u_aload_n hB 0 dX10_init_59 rfl rfl ?_
  refine h_new (ci := 5) (C := RX5) (T := TX5) (N := 4) [.null, .null, .int 0, .int 0] tyX5 hB hK hR rfl uw_X5 tyX5_ok k_cl_X10_44 k_in_X5 k_ini_X5 df_X5 (by decide) (by decide) dX10_init_60 (fun q6 => ?_)
  refine u_dup hB dX10_init_63 rfl ?_
  refine h_callN hB hK hR lb_X5_init rfl (hK.2.2.2.1 (RX10, 46, yX5_init, "FormsAboveNought") (List.mem_of_getElem? (i := 4) rfl)) li_X5_init (n_X5 g X.1.2.1 q6) dX10_init_64 (Nat.le_of_ble_eq_true rfl) (by decide) (by decide) (by decide) (by decide) (fun a6 => ?_)
  refine u_putF (f := 5) (ty := (.object "FormsAboveNought$Maker")) tyX10 hB hK hR rfl (by decide) fw_X10_47 uw_X10 tyX10_ok nmX10 rfl rfl rfl rfl rfl (Nat.le_of_ble_eq_true rfl) dX10_init_67 ?_
  refine u_aload_n hB 0 dX10_init_70 rfl rfl ?_
  refine h_new (ci := 8) (C := RX8) (T := TX8) (N := 6) [.int 0, .null, .null, .null, .null, .int 0] tyX8 hB hK hR rfl uw_X8 tyX8_ok k_cl_X10_51 k_in_X8 k_ini_X8 df_X8 (by decide) (by decide) dX10_init_71 (fun q7 => ?_)
  refine u_dup hB dX10_init_74 rfl ?_
  refine h_callN hB hK hR lb_X8_init rfl (hK.2.2.2.1 (RX10, 53, yX8_init, "FormsAboveNought") (List.mem_of_getElem? (i := 5) rfl)) li_X8_init (n_X8 g X.1.2.1 q7) dX10_init_75 (Nat.le_of_ble_eq_true rfl) (by decide) (by decide) (by decide) (by decide) (fun a7 => ?_)
  refine u_putF (f := 6) (ty := (.object "FormsAboveNought$UndoLog")) tyX10 hB hK hR rfl (by decide) fw_X10_54 uw_X10 tyX10_ok nmX10 rfl rfl rfl rfl rfl (Nat.le_of_ble_eq_true rfl) dX10_init_78 ?_
  refine u_aload_n hB 0 dX10_init_81 rfl rfl ?_
  refine h_new (ci := 4) (C := RX4) (T := TX4) (N := 2) [.null, .null] tyX4 hB hK hR rfl uw_X4 tyX4_ok k_cl_X10_58 k_in_X4 k_ini_X4 df_X4 (by decide) (by decide) dX10_init_82 (fun q8 => ?_)
  refine u_dup hB dX10_init_85 rfl ?_
  refine h_callN hB hK hR lb_X4_init rfl (hK.2.2.2.1 (RX10, 60, yX4_init, "FormsAboveNought") (List.mem_of_getElem? (i := 6) rfl)) li_X4_init (n_X4 g X.1.2.1 q8) dX10_init_86 (Nat.le_of_ble_eq_true rfl) (by decide) (by decide) (by decide) (by decide) (fun a8 => ?_)
  refine u_putF (f := 7) (ty := (.object "FormsAboveNought$Lists")) tyX10 hB hK hR rfl (by decide) fw_X10_61 uw_X10 tyX10_ok nmX10 rfl rfl rfl rfl rfl (Nat.le_of_ble_eq_true rfl) dX10_init_89 ?_
  refine u_aload_n hB 0 dX10_init_92 rfl rfl ?_
  refine u_bipush hB 7 dX10_init_93 (by decide) ?_
  refine h_newi (t0 := 0) (cA := g.2.2.1 0) hB hK hR rfl k_ac_int 7 (by decide) (by decide) (by decide) (by decide) (by decide) dX10_init_95 (fun q9 => ?_)
  refine u_putF (f := 8) (ty := (.array .int)) tyX10 hB hK hR rfl (by decide) fw_X10_65 uw_X10 tyX10_ok nmX10 rfl rfl rfl rfl rfl (Nat.le_of_ble_eq_true rfl) dX10_init_97 ?_
  exact u_vret (fun i => (if i < 1 then q1 else (if i < 29 then a1 (i - 1) else (if i < 30 then q2 else (if i < 31 then a2 (i - 30) else (if i < 32 then q3 else (if i < 33 then a3 (i - 32) else (if i < 34 then q4 else (if i < 38 then a4 (i - 34) else (if i < 39 then q5 else (if i < 40 then q6 else (if i < 70 then a6 (i - 40) else (if i < 71 then q7 else (if i < 75 then a7 (i - 71) else (if i < 76 then q8 else (if i < 81 then a8 (i - 76) else (if i < 82 then q9 else 0))))))))))))))))) hB hK hR (by
    rw [we_X5 (g := g) (q0 := q6) (a := a6) (a2 := fun k => (fun i => (if i < 1 then q1 else (if i < 29 then a1 (i - 1) else (if i < 30 then q2 else (if i < 31 then a2 (i - 30) else (if i < 32 then q3 else (if i < 33 then a3 (i - 32) else (if i < 34 then q4 else (if i < 38 then a4 (i - 34) else (if i < 39 then q5 else (if i < 40 then q6 else (if i < 70 then a6 (i - 40) else (if i < 71 then q7 else (if i < 75 then a7 (i - 71) else (if i < 76 then q8 else (if i < 81 then a8 (i - 76) else (if i < 82 then q9 else 0))))))))))))))))) (40 + k)) (fun k hk => by
      show a6 k = (if 40 + k < 1 then q1 else (if 40 + k < 29 then a1 ((40 + k) - 1) else (if 40 + k < 30 then q2 else (if 40 + k < 31 then a2 ((40 + k) - 30) else (if 40 + k < 32 then q3 else (if 40 + k < 33 then a3 ((40 + k) - 32) else (if 40 + k < 34 then q4 else (if 40 + k < 38 then a4 ((40 + k) - 34) else (if 40 + k < 39 then q5 else (if 40 + k < 40 then q6 else (if 40 + k < 70 then a6 ((40 + k) - 40) else (if 40 + k < 71 then q7 else (if 40 + k < 75 then a7 ((40 + k) - 71) else (if 40 + k < 76 then q8 else (if 40 + k < 81 then a8 ((40 + k) - 76) else (if 40 + k < 82 then q9 else 0))))))))))))))))
      rw [if_neg (show ¬ 40 + k < 1 by omega)]; rw [if_neg (show ¬ 40 + k < 29 by omega)]; rw [if_neg (show ¬ 40 + k < 30 by omega)]; rw [if_neg (show ¬ 40 + k < 31 by omega)]; rw [if_neg (show ¬ 40 + k < 32 by omega)]; rw [if_neg (show ¬ 40 + k < 33 by omega)]; rw [if_neg (show ¬ 40 + k < 34 by omega)]; rw [if_neg (show ¬ 40 + k < 38 by omega)]; rw [if_neg (show ¬ 40 + k < 39 by omega)]; rw [if_neg (show ¬ 40 + k < 40 by omega)]; rw [if_pos (show 40 + k < 70 by omega)]
      congr 1; omega)]
    rw [we_X4 (g := g) (q0 := q8) (a := a8) (a2 := fun k => (fun i => (if i < 1 then q1 else (if i < 29 then a1 (i - 1) else (if i < 30 then q2 else (if i < 31 then a2 (i - 30) else (if i < 32 then q3 else (if i < 33 then a3 (i - 32) else (if i < 34 then q4 else (if i < 38 then a4 (i - 34) else (if i < 39 then q5 else (if i < 40 then q6 else (if i < 70 then a6 (i - 40) else (if i < 71 then q7 else (if i < 75 then a7 (i - 71) else (if i < 76 then q8 else (if i < 81 then a8 (i - 76) else (if i < 82 then q9 else 0))))))))))))))))) (76 + k)) (fun k hk => by
      show a8 k = (if 76 + k < 1 then q1 else (if 76 + k < 29 then a1 ((76 + k) - 1) else (if 76 + k < 30 then q2 else (if 76 + k < 31 then a2 ((76 + k) - 30) else (if 76 + k < 32 then q3 else (if 76 + k < 33 then a3 ((76 + k) - 32) else (if 76 + k < 34 then q4 else (if 76 + k < 38 then a4 ((76 + k) - 34) else (if 76 + k < 39 then q5 else (if 76 + k < 40 then q6 else (if 76 + k < 70 then a6 ((76 + k) - 40) else (if 76 + k < 71 then q7 else (if 76 + k < 75 then a7 ((76 + k) - 71) else (if 76 + k < 76 then q8 else (if 76 + k < 81 then a8 ((76 + k) - 76) else (if 76 + k < 82 then q9 else 0))))))))))))))))
      rw [if_neg (show ¬ 76 + k < 1 by omega)]; rw [if_neg (show ¬ 76 + k < 29 by omega)]; rw [if_neg (show ¬ 76 + k < 30 by omega)]; rw [if_neg (show ¬ 76 + k < 31 by omega)]; rw [if_neg (show ¬ 76 + k < 32 by omega)]; rw [if_neg (show ¬ 76 + k < 33 by omega)]; rw [if_neg (show ¬ 76 + k < 34 by omega)]; rw [if_neg (show ¬ 76 + k < 38 by omega)]; rw [if_neg (show ¬ 76 + k < 39 by omega)]; rw [if_neg (show ¬ 76 + k < 40 by omega)]; rw [if_neg (show ¬ 76 + k < 70 by omega)]; rw [if_neg (show ¬ 76 + k < 71 by omega)]; rw [if_neg (show ¬ 76 + k < 75 by omega)]; rw [if_neg (show ¬ 76 + k < 76 by omega)]; rw [if_pos (show 76 + k < 81 by omega)]
      congr 1; omega)]
    rfl) (by decide) (by decide) dX10_init_100
end
section
theorem dX11_init_0 : decode cX11_init 0 = .ok (.aload_n 0, 1) := by decide +kernel
theorem dX11_init_1 : decode cX11_init 1 = .ok (.invokespecial 21, 3) := by decide +kernel
theorem dX11_init_4 : decode cX11_init 4 = .ok (.aload_n 0, 1) := by decide +kernel
theorem dX11_init_5 : decode cX11_init 5 = .ok (.bipush 7, 2) := by decide +kernel
theorem dX11_init_7 : decode cX11_init 7 = .ok (.newarray .int, 2) := by decide +kernel
theorem dX11_init_9 : decode cX11_init 9 = .ok (.putfield 1, 3) := by decide +kernel
theorem dX11_init_12 : decode cX11_init 12 = .ok (.aload_n 0, 1) := by decide +kernel
theorem dX11_init_13 : decode cX11_init 13 = .ok (.sipush 168, 3) := by decide +kernel
theorem dX11_init_16 : decode cX11_init 16 = .ok (.newarray .int, 2) := by decide +kernel
theorem dX11_init_18 : decode cX11_init 18 = .ok (.putfield 27, 3) := by decide +kernel
theorem dX11_init_21 : decode cX11_init 21 = .ok (.aload_n 0, 1) := by decide +kernel
theorem dX11_init_22 : decode cX11_init 22 = .ok (.bipush 6, 2) := by decide +kernel
theorem dX11_init_24 : decode cX11_init 24 = .ok (.newarray .int, 2) := by decide +kernel
theorem dX11_init_26 : decode cX11_init 26 = .ok (.putfield 30, 3) := by decide +kernel
theorem dX11_init_29 : decode cX11_init 29 = .ok (.aload_n 0, 1) := by decide +kernel
theorem dX11_init_30 : decode cX11_init 30 = .ok (.bipush 6, 2) := by decide +kernel
theorem dX11_init_32 : decode cX11_init 32 = .ok (.newarray .int, 2) := by decide +kernel
theorem dX11_init_34 : decode cX11_init 34 = .ok (.putfield 33, 3) := by decide +kernel
theorem dX11_init_37 : decode cX11_init 37 = .ok (.aload_n 0, 1) := by decide +kernel
theorem dX11_init_38 : decode cX11_init 38 = .ok (.bipush 6, 2) := by decide +kernel
theorem dX11_init_40 : decode cX11_init 40 = .ok (.newarray .int, 2) := by decide +kernel
theorem dX11_init_42 : decode cX11_init 42 = .ok (.putfield 36, 3) := by decide +kernel
theorem dX11_init_45 : decode cX11_init 45 = .ok (.aload_n 0, 1) := by decide +kernel
theorem dX11_init_46 : decode cX11_init 46 = .ok (.bipush 16, 2) := by decide +kernel
theorem dX11_init_48 : decode cX11_init 48 = .ok (.newarray .int, 2) := by decide +kernel
theorem dX11_init_50 : decode cX11_init 50 = .ok (.putfield 39, 3) := by decide +kernel
theorem dX11_init_53 : decode cX11_init 53 = .ok (.aload_n 0, 1) := by decide +kernel
theorem dX11_init_54 : decode cX11_init 54 = .ok (.bipush 16, 2) := by decide +kernel
theorem dX11_init_56 : decode cX11_init 56 = .ok (.newarray .int, 2) := by decide +kernel
theorem dX11_init_58 : decode cX11_init 58 = .ok (.putfield 42, 3) := by decide +kernel
theorem dX11_init_61 : decode cX11_init 61 = .ok (.aload_n 0, 1) := by decide +kernel
theorem dX11_init_62 : decode cX11_init 62 = .ok (.bipush 28, 2) := by decide +kernel
theorem dX11_init_64 : decode cX11_init 64 = .ok (.newarray .long, 2) := by decide +kernel
theorem dX11_init_66 : decode cX11_init 66 = .ok (.putfield 45, 3) := by decide +kernel
theorem dX11_init_69 : decode cX11_init 69 = .ok (.aload_n 0, 1) := by decide +kernel
theorem dX11_init_70 : decode cX11_init 70 = .ok (.bipush 72, 2) := by decide +kernel
theorem dX11_init_72 : decode cX11_init 72 = .ok (.newarray .int, 2) := by decide +kernel
theorem dX11_init_74 : decode cX11_init 74 = .ok (.putfield 49, 3) := by decide +kernel
theorem dX11_init_77 : decode cX11_init 77 = .ok (.aload_n 0, 1) := by decide +kernel
theorem dX11_init_78 : decode cX11_init 78 = .ok (.iconst 3, 1) := by decide +kernel
theorem dX11_init_79 : decode cX11_init 79 = .ok (.newarray .int, 2) := by decide +kernel
theorem dX11_init_81 : decode cX11_init 81 = .ok (.putfield 52, 3) := by decide +kernel
theorem dX11_init_84 : decode cX11_init 84 = .ok (.aload_n 0, 1) := by decide +kernel
theorem dX11_init_85 : decode cX11_init 85 = .ok (.bipush 16, 2) := by decide +kernel
theorem dX11_init_87 : decode cX11_init 87 = .ok (.newarray .int, 2) := by decide +kernel
theorem dX11_init_89 : decode cX11_init 89 = .ok (.putfield 55, 3) := by decide +kernel
theorem dX11_init_92 : decode cX11_init 92 = .ok (.aload_n 0, 1) := by decide +kernel
theorem dX11_init_93 : decode cX11_init 93 = .ok (.bipush 16, 2) := by decide +kernel
theorem dX11_init_95 : decode cX11_init 95 = .ok (.newarray .int, 2) := by decide +kernel
theorem dX11_init_97 : decode cX11_init 97 = .ok (.putfield 58, 3) := by decide +kernel
theorem dX11_init_100 : decode cX11_init 100 = .ok (.aload_n 0, 1) := by decide +kernel
theorem dX11_init_101 : decode cX11_init 101 = .ok (.bipush 16, 2) := by decide +kernel
theorem dX11_init_103 : decode cX11_init 103 = .ok (.newarray .int, 2) := by decide +kernel
theorem dX11_init_105 : decode cX11_init 105 = .ok (.putfield 61, 3) := by decide +kernel
theorem dX11_init_108 : decode cX11_init 108 = .ok (.aload_n 0, 1) := by decide +kernel
theorem dX11_init_109 : decode cX11_init 109 = .ok (.bipush 16, 2) := by decide +kernel
theorem dX11_init_111 : decode cX11_init 111 = .ok (.newarray .int, 2) := by decide +kernel
theorem dX11_init_113 : decode cX11_init 113 = .ok (.putfield 64, 3) := by decide +kernel
theorem dX11_init_116 : decode cX11_init 116 = .ok (.aload_n 0, 1) := by decide +kernel
theorem dX11_init_117 : decode cX11_init 117 = .ok (.sipush 190, 3) := by decide +kernel
theorem dX11_init_120 : decode cX11_init 120 = .ok (.newarray .long, 2) := by decide +kernel
theorem dX11_init_122 : decode cX11_init 122 = .ok (.putfield 67, 3) := by decide +kernel
theorem dX11_init_125 : decode cX11_init 125 = .ok (.aload_n 0, 1) := by decide +kernel
theorem dX11_init_126 : decode cX11_init 126 = .ok (.sipush 190, 3) := by decide +kernel
theorem dX11_init_129 : decode cX11_init 129 = .ok (.newarray .long, 2) := by decide +kernel
theorem dX11_init_131 : decode cX11_init 131 = .ok (.putfield 70, 3) := by decide +kernel
theorem dX11_init_134 : decode cX11_init 134 = .ok (.aload_n 0, 1) := by decide +kernel
theorem dX11_init_135 : decode cX11_init 135 = .ok (.bipush 112, 2) := by decide +kernel
theorem dX11_init_137 : decode cX11_init 137 = .ok (.newarray .int, 2) := by decide +kernel
theorem dX11_init_139 : decode cX11_init 139 = .ok (.putfield 73, 3) := by decide +kernel
theorem dX11_init_142 : decode cX11_init 142 = .ok (.aload_n 0, 1) := by decide +kernel
theorem dX11_init_143 : decode cX11_init 143 = .ok (.iconst 3, 1) := by decide +kernel
theorem dX11_init_144 : decode cX11_init 144 = .ok (.newarray .int, 2) := by decide +kernel
theorem dX11_init_146 : decode cX11_init 146 = .ok (.putfield 76, 3) := by decide +kernel
theorem dX11_init_149 : decode cX11_init 149 = .ok (.aload_n 0, 1) := by decide +kernel
theorem dX11_init_150 : decode cX11_init 150 = .ok (.sipush 500, 3) := by decide +kernel
theorem dX11_init_153 : decode cX11_init 153 = .ok (.newarray .int, 2) := by decide +kernel
theorem dX11_init_155 : decode cX11_init 155 = .ok (.putfield 79, 3) := by decide +kernel
theorem dX11_init_158 : decode cX11_init 158 = .ok (.aload_n 0, 1) := by decide +kernel
theorem dX11_init_159 : decode cX11_init 159 = .ok (.iconst 3, 1) := by decide +kernel
theorem dX11_init_160 : decode cX11_init 160 = .ok (.newarray .int, 2) := by decide +kernel
theorem dX11_init_162 : decode cX11_init 162 = .ok (.putfield 82, 3) := by decide +kernel
theorem dX11_init_165 : decode cX11_init 165 = .ok (.aload_n 0, 1) := by decide +kernel
theorem dX11_init_166 : decode cX11_init 166 = .ok (.bipush 120, 2) := by decide +kernel
theorem dX11_init_168 : decode cX11_init 168 = .ok (.newarray .int, 2) := by decide +kernel
theorem dX11_init_170 : decode cX11_init 170 = .ok (.putfield 85, 3) := by decide +kernel
theorem dX11_init_173 : decode cX11_init 173 = .ok (.aload_n 0, 1) := by decide +kernel
theorem dX11_init_174 : decode cX11_init 174 = .ok (.sipush 190, 3) := by decide +kernel
theorem dX11_init_177 : decode cX11_init 177 = .ok (.newarray .int, 2) := by decide +kernel
theorem dX11_init_179 : decode cX11_init 179 = .ok (.putfield 88, 3) := by decide +kernel
theorem dX11_init_182 : decode cX11_init 182 = .ok (.aload_n 0, 1) := by decide +kernel
theorem dX11_init_183 : decode cX11_init 183 = .ok (.bipush (-9), 2) := by decide +kernel
theorem dX11_init_185 : decode cX11_init 185 = .ok (.putfield 91, 3) := by decide +kernel
theorem dX11_init_188 : decode cX11_init 188 = .ok (.iconst 0, 1) := by decide +kernel
theorem dX11_init_189 : decode cX11_init 189 = .ok (.istore_n 1, 1) := by decide +kernel
theorem dX11_init_190 : decode cX11_init 190 = .ok (.iload_n 1, 1) := by decide +kernel
theorem dX11_init_191 : decode cX11_init 191 = .ok (.iconst 3, 1) := by decide +kernel
theorem dX11_init_192 : decode cX11_init 192 = .ok (.if_icmp .ge 17, 3) := by decide +kernel
theorem dX11_init_195 : decode cX11_init 195 = .ok (.aload_n 0, 1) := by decide +kernel
theorem dX11_init_196 : decode cX11_init 196 = .ok (.getfield 82, 3) := by decide +kernel
theorem dX11_init_199 : decode cX11_init 199 = .ok (.iload_n 1, 1) := by decide +kernel
theorem dX11_init_200 : decode cX11_init 200 = .ok (.bipush (-9), 2) := by decide +kernel
theorem dX11_init_202 : decode cX11_init 202 = .ok (.iastore, 1) := by decide +kernel
theorem dX11_init_203 : decode cX11_init 203 = .ok (.iinc 1 1, 3) := by decide +kernel
theorem dX11_init_206 : decode cX11_init 206 = .ok (.goto (-16), 3) := by decide +kernel
theorem dX11_init_209 : decode cX11_init 209 = .ok (.return_, 1) := by decide +kernel
set_option maxRecDepth 8000 in
theorem k_lo_X11_21 : Cond.methodLink RX11 21 Lib.objectInit ∈ pq_G := pq_t4 197 rfl rfl
set_option maxRecDepth 8000 in
theorem fw_X11_1 : Cond.fieldLink RX11 1 (TX11 0).1 (TX11 0).2.1 (TX11 0).2.2.1 ∈ pq_G := pq_t4 198 rfl rfl
set_option maxRecDepth 8000 in
theorem fw_X11_27 : Cond.fieldLink RX11 27 (TX11 1).1 (TX11 1).2.1 (TX11 1).2.2.1 ∈ pq_G := pq_t4 199 rfl rfl
set_option maxRecDepth 8000 in
theorem fw_X11_30 : Cond.fieldLink RX11 30 (TX11 2).1 (TX11 2).2.1 (TX11 2).2.2.1 ∈ pq_G := pq_t4 200 rfl rfl
set_option maxRecDepth 8000 in
theorem fw_X11_33 : Cond.fieldLink RX11 33 (TX11 3).1 (TX11 3).2.1 (TX11 3).2.2.1 ∈ pq_G := pq_t4 201 rfl rfl
set_option maxRecDepth 8000 in
theorem fw_X11_36 : Cond.fieldLink RX11 36 (TX11 4).1 (TX11 4).2.1 (TX11 4).2.2.1 ∈ pq_G := pq_t4 202 rfl rfl
set_option maxRecDepth 8000 in
theorem fw_X11_39 : Cond.fieldLink RX11 39 (TX11 6).1 (TX11 6).2.1 (TX11 6).2.2.1 ∈ pq_G := pq_t4 204 rfl rfl
set_option maxRecDepth 8000 in
theorem fw_X11_42 : Cond.fieldLink RX11 42 (TX11 7).1 (TX11 7).2.1 (TX11 7).2.2.1 ∈ pq_G := pq_t4 205 rfl rfl
set_option maxRecDepth 8000 in
theorem fw_X11_45 : Cond.fieldLink RX11 45 (TX11 9).1 (TX11 9).2.1 (TX11 9).2.2.1 ∈ pq_G := pq_t4 207 rfl rfl
set_option maxRecDepth 8000 in
theorem fw_X11_49 : Cond.fieldLink RX11 49 (TX11 10).1 (TX11 10).2.1 (TX11 10).2.2.1 ∈ pq_G := pq_t4 208 rfl rfl
set_option maxRecDepth 8000 in
theorem fw_X11_52 : Cond.fieldLink RX11 52 (TX11 13).1 (TX11 13).2.1 (TX11 13).2.2.1 ∈ pq_G := pq_t4 211 rfl rfl
set_option maxRecDepth 8000 in
theorem fw_X11_55 : Cond.fieldLink RX11 55 (TX11 14).1 (TX11 14).2.1 (TX11 14).2.2.1 ∈ pq_G := pq_t4 212 rfl rfl
set_option maxRecDepth 8000 in
theorem fw_X11_58 : Cond.fieldLink RX11 58 (TX11 15).1 (TX11 15).2.1 (TX11 15).2.2.1 ∈ pq_G := pq_t4 213 rfl rfl
set_option maxRecDepth 8000 in
theorem fw_X11_61 : Cond.fieldLink RX11 61 (TX11 16).1 (TX11 16).2.1 (TX11 16).2.2.1 ∈ pq_G := pq_t4 214 rfl rfl
set_option maxRecDepth 8000 in
theorem fw_X11_64 : Cond.fieldLink RX11 64 (TX11 17).1 (TX11 17).2.1 (TX11 17).2.2.1 ∈ pq_G := pq_t4 215 rfl rfl
set_option maxRecDepth 8000 in
theorem fw_X11_67 : Cond.fieldLink RX11 67 (TX11 19).1 (TX11 19).2.1 (TX11 19).2.2.1 ∈ pq_G := pq_t4 217 rfl rfl
set_option maxRecDepth 8000 in
theorem fw_X11_70 : Cond.fieldLink RX11 70 (TX11 20).1 (TX11 20).2.1 (TX11 20).2.2.1 ∈ pq_G := pq_t4 218 rfl rfl
set_option maxRecDepth 8000 in
theorem fw_X11_73 : Cond.fieldLink RX11 73 (TX11 29).1 (TX11 29).2.1 (TX11 29).2.2.1 ∈ pq_G := pq_t4 227 rfl rfl
set_option maxRecDepth 8000 in
theorem fw_X11_76 : Cond.fieldLink RX11 76 (TX11 30).1 (TX11 30).2.1 (TX11 30).2.2.1 ∈ pq_G := pq_t4 228 rfl rfl
set_option maxRecDepth 8000 in
theorem fw_X11_79 : Cond.fieldLink RX11 79 (TX11 35).1 (TX11 35).2.1 (TX11 35).2.2.1 ∈ pq_G := pq_t4 233 rfl rfl
set_option maxRecDepth 8000 in
theorem fw_X11_82 : Cond.fieldLink RX11 82 (TX11 38).1 (TX11 38).2.1 (TX11 38).2.2.1 ∈ pq_G := pq_t4 236 rfl rfl
set_option maxRecDepth 8000 in
theorem fw_X11_85 : Cond.fieldLink RX11 85 (TX11 39).1 (TX11 39).2.1 (TX11 39).2.2.1 ∈ pq_G := pq_t4 237 rfl rfl
set_option maxRecDepth 8000 in
theorem fw_X11_88 : Cond.fieldLink RX11 88 (TX11 40).1 (TX11 40).2.1 (TX11 40).2.2.1 ∈ pq_G := pq_t4 238 rfl rfl
set_option maxRecDepth 8000 in
theorem fw_X11_91 : Cond.fieldLink RX11 91 (TX11 42).1 (TX11 42).2.1 (TX11 42).2.2.1 ∈ pq_G := pq_t5 0 rfl rfl
def W_X11 (g : pq_g) (q0 : Nat) (a : Nat → Nat) : va_W := [(q0, .inr (11, [.ref (a 0), .ref (a 1), .ref (a 2), .ref (a 3), .ref (a 4), .int 0, .ref (a 5), .ref (a 6), .int 0, .ref (a 7), .ref (a 8), .int 0, .int 0, .ref (a 9), .ref (a 10), .ref (a 11), .ref (a 12), .ref (a 13), .int 0, .ref (a 14), .ref (a 15), .int 0, .int 0, .int 0, .int 0, .int 0, .int 0, .int 0, .long 0, .ref (a 16), .ref (a 17), .int 0, .int 0, .int 0, .int 0, .ref (a 18), .int 0, .int 0, .ref (a 19), .ref (a 20), .ref (a 21), .int 0, .int (-9), .int 0])), (a 0, .inl (g.2.2.1 0, 7, .inl (fun _ => 0))), (a 1, .inl (g.2.2.1 0, 168, .inl (fun _ => 0))), (a 2, .inl (g.2.2.1 0, 6, .inl (fun _ => 0))), (a 3, .inl (g.2.2.1 0, 6, .inl (fun _ => 0))), (a 4, .inl (g.2.2.1 0, 6, .inl (fun _ => 0))), (a 5, .inl (g.2.2.1 0, 16, .inl (fun _ => 0))), (a 6, .inl (g.2.2.1 0, 16, .inl (fun _ => 0))), (a 7, .inl (g.2.2.1 1, 28, .inr (.inl (fun _ => 0)))), (a 8, .inl (g.2.2.1 0, 72, .inl (fun _ => 0))), (a 9, .inl (g.2.2.1 0, 3, .inl (fun _ => 0))), (a 10, .inl (g.2.2.1 0, 16, .inl (fun _ => 0))), (a 11, .inl (g.2.2.1 0, 16, .inl (fun _ => 0))), (a 12, .inl (g.2.2.1 0, 16, .inl (fun _ => 0))), (a 13, .inl (g.2.2.1 0, 16, .inl (fun _ => 0))), (a 14, .inl (g.2.2.1 1, 190, .inr (.inl (fun _ => 0)))), (a 15, .inl (g.2.2.1 1, 190, .inr (.inl (fun _ => 0)))), (a 16, .inl (g.2.2.1 0, 112, .inl (fun _ => 0))), (a 17, .inl (g.2.2.1 0, 3, .inl (fun _ => 0))), (a 18, .inl (g.2.2.1 0, 500, .inl (fun _ => 0))), (a 19, .inl (g.2.2.1 0, 3, .inl (upd (upd (upd (fun _ => 0) 0 (-9)) 1 (-9)) 2 (-9)))), (a 20, .inl (g.2.2.1 0, 120, .inl (fun _ => 0))), (a 21, .inl (g.2.2.1 0, 190, .inl (fun _ => 0)))]
set_option maxRecDepth 8000 in
theorem lb_X11_init : pq_LB yX11_init cX11_init 2 none 0 := ⟨pq_t1 12 rfl rfl, pq_t4 196 rfl rfl, by decide +kernel, by decide +kernel, by decide +kernel⟩
set_option maxRecDepth 8000 in
theorem li_X11_init : Cond.instanceMethod yX11_init ∈ pq_G := pq_t4 195 rfl rfl
set_option maxRecDepth 100000 in
set_option maxHeartbeats 4000000 in
theorem n_X11 (g : pq_g) (l : Launch) (q0 : Nat) : pq_N (g.2.1, vwCl, pq_tys g) l yX11_init cX11_init 2 1 20 22 1700 q0 (.inr (11, [.null, .null, .null, .null, .null, .int 0, .null, .null, .int 0, .null, .null, .int 0, .int 0, .null, .null, .null, .null, .null, .int 0, .null, .null, .int 0, .int 0, .int 0, .int 0, .int 0, .int 0, .int 0, .long 0, .null, .null, .int 0, .int 0, .int 0, .int 0, .null, .int 0, .int 0, .null, .null, .null, .int 0, .int 0, .int 0])) (W_X11 g q0) := by
  refine pq_metI l (own := RX11) 1 20 22 1700 q0 _ _ (by decide +kernel) rfl rfl (by decide) (fun X hXl hB hK hR => ?_)
  refine u_aload_n hB 0 dX11_init_0 rfl rfl ?_
  refine u_obj hB hR k_lo_X11_21 k_oi k_oc (by decide) (Nat.le_of_ble_eq_true rfl) dX11_init_1 ?_
  refine u_aload_n hB 0 dX11_init_4 rfl rfl ?_
  refine u_bipush hB 7 dX11_init_5 (by decide) ?_
  refine h_newi (t0 := 0) (cA := g.2.2.1 0) hB hK hR rfl k_ac_int 7 (by decide) (by decide) (by decide) (by decide) (by decide) dX11_init_7 (fun q1 => ?_)
  refine u_putF (f := 0) (ty := (.array .int)) tyX11 hB hK hR rfl (by decide) fw_X11_1 uw_X11 tyX11_ok nmX11 rfl rfl rfl rfl rfl (Nat.le_of_ble_eq_true rfl) dX11_init_9 ?_
  refine u_eq (ws' := (q0, .inr (11, [.ref q1, .null, .null, .null, .null, .int 0, .null, .null, .int 0, .null, .null, .int 0, .int 0, .null, .null, .null, .null, .null, .int 0, .null, .null, .int 0, .int 0, .int 0, .int 0, .int 0, .int 0, .int 0, .long 0, .null, .null, .int 0, .int 0, .int 0, .int 0, .null, .int 0, .int 0, .null, .null, .null, .int 0, .int 0, .int 0])) :: _) rfl ?_
  refine u_aload_n hB 0 dX11_init_12 rfl rfl ?_
  refine u_sipush hB 168 dX11_init_13 (by decide) ?_
  refine h_newi (t0 := 0) (cA := g.2.2.1 0) hB hK hR rfl k_ac_int 168 (by decide) (by decide) (by decide) (by decide) (by decide) dX11_init_16 (fun q2 => ?_)
  refine u_putF (f := 1) (ty := (.array .int)) tyX11 hB hK hR rfl (by decide) fw_X11_27 uw_X11 tyX11_ok nmX11 rfl rfl rfl rfl rfl (Nat.le_of_ble_eq_true rfl) dX11_init_18 ?_
  refine u_eq (ws' := (q0, .inr (11, [.ref q1, .ref q2, .null, .null, .null, .int 0, .null, .null, .int 0, .null, .null, .int 0, .int 0, .null, .null, .null, .null, .null, .int 0, .null, .null, .int 0, .int 0, .int 0, .int 0, .int 0, .int 0, .int 0, .long 0, .null, .null, .int 0, .int 0, .int 0, .int 0, .null, .int 0, .int 0, .null, .null, .null, .int 0, .int 0, .int 0])) :: _) rfl ?_
  refine u_aload_n hB 0 dX11_init_21 rfl rfl ?_
  refine u_bipush hB 6 dX11_init_22 (by decide) ?_
  refine h_newi (t0 := 0) (cA := g.2.2.1 0) hB hK hR rfl k_ac_int 6 (by decide) (by decide) (by decide) (by decide) (by decide) dX11_init_24 (fun q3 => ?_)
  refine u_putF (f := 2) (ty := (.array .int)) tyX11 hB hK hR rfl (by decide) fw_X11_30 uw_X11 tyX11_ok nmX11 rfl rfl rfl rfl rfl (Nat.le_of_ble_eq_true rfl) dX11_init_26 ?_
  refine u_eq (ws' := (q0, .inr (11, [.ref q1, .ref q2, .ref q3, .null, .null, .int 0, .null, .null, .int 0, .null, .null, .int 0, .int 0, .null, .null, .null, .null, .null, .int 0, .null, .null, .int 0, .int 0, .int 0, .int 0, .int 0, .int 0, .int 0, .long 0, .null, .null, .int 0, .int 0, .int 0, .int 0, .null, .int 0, .int 0, .null, .null, .null, .int 0, .int 0, .int 0])) :: _) rfl ?_
  refine u_aload_n hB 0 dX11_init_29 rfl rfl ?_
  refine u_bipush hB 6 dX11_init_30 (by decide) ?_
  refine h_newi (t0 := 0) (cA := g.2.2.1 0) hB hK hR rfl k_ac_int 6 (by decide) (by decide) (by decide) (by decide) (by decide) dX11_init_32 (fun q4 => ?_)
  refine u_putF (f := 3) (ty := (.array .int)) tyX11 hB hK hR rfl (by decide) fw_X11_33 uw_X11 tyX11_ok nmX11 rfl rfl rfl rfl rfl (Nat.le_of_ble_eq_true rfl) dX11_init_34 ?_
  refine u_eq (ws' := (q0, .inr (11, [.ref q1, .ref q2, .ref q3, .ref q4, .null, .int 0, .null, .null, .int 0, .null, .null, .int 0, .int 0, .null, .null, .null, .null, .null, .int 0, .null, .null, .int 0, .int 0, .int 0, .int 0, .int 0, .int 0, .int 0, .long 0, .null, .null, .int 0, .int 0, .int 0, .int 0, .null, .int 0, .int 0, .null, .null, .null, .int 0, .int 0, .int 0])) :: _) rfl ?_
  refine u_aload_n hB 0 dX11_init_37 rfl rfl ?_
  refine u_bipush hB 6 dX11_init_38 (by decide) ?_
  refine h_newi (t0 := 0) (cA := g.2.2.1 0) hB hK hR rfl k_ac_int 6 (by decide) (by decide) (by decide) (by decide) (by decide) dX11_init_40 (fun q5 => ?_)
  refine u_putF (f := 4) (ty := (.array .int)) tyX11 hB hK hR rfl (by decide) fw_X11_36 uw_X11 tyX11_ok nmX11 rfl rfl rfl rfl rfl (Nat.le_of_ble_eq_true rfl) dX11_init_42 ?_
  refine u_eq (ws' := (q0, .inr (11, [.ref q1, .ref q2, .ref q3, .ref q4, .ref q5, .int 0, .null, .null, .int 0, .null, .null, .int 0, .int 0, .null, .null, .null, .null, .null, .int 0, .null, .null, .int 0, .int 0, .int 0, .int 0, .int 0, .int 0, .int 0, .long 0, .null, .null, .int 0, .int 0, .int 0, .int 0, .null, .int 0, .int 0, .null, .null, .null, .int 0, .int 0, .int 0])) :: _) rfl ?_
  refine u_aload_n hB 0 dX11_init_45 rfl rfl ?_
  refine u_bipush hB 16 dX11_init_46 (by decide) ?_
  refine h_newi (t0 := 0) (cA := g.2.2.1 0) hB hK hR rfl k_ac_int 16 (by decide) (by decide) (by decide) (by decide) (by decide) dX11_init_48 (fun q6 => ?_)
  refine u_putF (f := 6) (ty := (.array .int)) tyX11 hB hK hR rfl (by decide) fw_X11_39 uw_X11 tyX11_ok nmX11 rfl rfl rfl rfl rfl (Nat.le_of_ble_eq_true rfl) dX11_init_50 ?_
  refine u_eq (ws' := (q0, .inr (11, [.ref q1, .ref q2, .ref q3, .ref q4, .ref q5, .int 0, .ref q6, .null, .int 0, .null, .null, .int 0, .int 0, .null, .null, .null, .null, .null, .int 0, .null, .null, .int 0, .int 0, .int 0, .int 0, .int 0, .int 0, .int 0, .long 0, .null, .null, .int 0, .int 0, .int 0, .int 0, .null, .int 0, .int 0, .null, .null, .null, .int 0, .int 0, .int 0])) :: _) rfl ?_
  refine u_aload_n hB 0 dX11_init_53 rfl rfl ?_
  refine u_bipush hB 16 dX11_init_54 (by decide) ?_
  refine h_newi (t0 := 0) (cA := g.2.2.1 0) hB hK hR rfl k_ac_int 16 (by decide) (by decide) (by decide) (by decide) (by decide) dX11_init_56 (fun q7 => ?_)
  refine u_putF (f := 7) (ty := (.array .int)) tyX11 hB hK hR rfl (by decide) fw_X11_42 uw_X11 tyX11_ok nmX11 rfl rfl rfl rfl rfl (Nat.le_of_ble_eq_true rfl) dX11_init_58 ?_
  refine u_eq (ws' := (q0, .inr (11, [.ref q1, .ref q2, .ref q3, .ref q4, .ref q5, .int 0, .ref q6, .ref q7, .int 0, .null, .null, .int 0, .int 0, .null, .null, .null, .null, .null, .int 0, .null, .null, .int 0, .int 0, .int 0, .int 0, .int 0, .int 0, .int 0, .long 0, .null, .null, .int 0, .int 0, .int 0, .int 0, .null, .int 0, .int 0, .null, .null, .null, .int 0, .int 0, .int 0])) :: _) rfl ?_
  refine u_aload_n hB 0 dX11_init_61 rfl rfl ?_
  refine u_bipush hB 28 dX11_init_62 (by decide) ?_
  refine h_newl (t0 := 1) (cA := g.2.2.1 1) hB hK hR rfl k_ac_long 28 (by decide) (by decide) (by decide) (by decide) (by decide) dX11_init_64 (fun q8 => ?_)
  refine u_putF (f := 9) (ty := (.array .long)) tyX11 hB hK hR rfl (by decide) fw_X11_45 uw_X11 tyX11_ok nmX11 rfl rfl rfl rfl rfl (Nat.le_of_ble_eq_true rfl) dX11_init_66 ?_
  refine u_eq (ws' := (q0, .inr (11, [.ref q1, .ref q2, .ref q3, .ref q4, .ref q5, .int 0, .ref q6, .ref q7, .int 0, .ref q8, .null, .int 0, .int 0, .null, .null, .null, .null, .null, .int 0, .null, .null, .int 0, .int 0, .int 0, .int 0, .int 0, .int 0, .int 0, .long 0, .null, .null, .int 0, .int 0, .int 0, .int 0, .null, .int 0, .int 0, .null, .null, .null, .int 0, .int 0, .int 0])) :: _) rfl ?_
  refine u_aload_n hB 0 dX11_init_69 rfl rfl ?_
  refine u_bipush hB 72 dX11_init_70 (by decide) ?_
  refine h_newi (t0 := 0) (cA := g.2.2.1 0) hB hK hR rfl k_ac_int 72 (by decide) (by decide) (by decide) (by decide) (by decide) dX11_init_72 (fun q9 => ?_)
  refine u_putF (f := 10) (ty := (.array .int)) tyX11 hB hK hR rfl (by decide) fw_X11_49 uw_X11 tyX11_ok nmX11 rfl rfl rfl rfl rfl (Nat.le_of_ble_eq_true rfl) dX11_init_74 ?_
  refine u_eq (ws' := (q0, .inr (11, [.ref q1, .ref q2, .ref q3, .ref q4, .ref q5, .int 0, .ref q6, .ref q7, .int 0, .ref q8, .ref q9, .int 0, .int 0, .null, .null, .null, .null, .null, .int 0, .null, .null, .int 0, .int 0, .int 0, .int 0, .int 0, .int 0, .int 0, .long 0, .null, .null, .int 0, .int 0, .int 0, .int 0, .null, .int 0, .int 0, .null, .null, .null, .int 0, .int 0, .int 0])) :: _) rfl ?_
  refine u_aload_n hB 0 dX11_init_77 rfl rfl ?_
  refine u_iconst hB 3 dX11_init_78 (by decide) ?_
  refine h_newi (t0 := 0) (cA := g.2.2.1 0) hB hK hR rfl k_ac_int 3 (by decide) (by decide) (by decide) (by decide) (by decide) dX11_init_79 (fun q10 => ?_)
  refine u_putF (f := 13) (ty := (.array .int)) tyX11 hB hK hR rfl (by decide) fw_X11_52 uw_X11 tyX11_ok nmX11 rfl rfl rfl rfl rfl (Nat.le_of_ble_eq_true rfl) dX11_init_81 ?_
  refine u_eq (ws' := (q0, .inr (11, [.ref q1, .ref q2, .ref q3, .ref q4, .ref q5, .int 0, .ref q6, .ref q7, .int 0, .ref q8, .ref q9, .int 0, .int 0, .ref q10, .null, .null, .null, .null, .int 0, .null, .null, .int 0, .int 0, .int 0, .int 0, .int 0, .int 0, .int 0, .long 0, .null, .null, .int 0, .int 0, .int 0, .int 0, .null, .int 0, .int 0, .null, .null, .null, .int 0, .int 0, .int 0])) :: _) rfl ?_
  refine u_aload_n hB 0 dX11_init_84 rfl rfl ?_
  refine u_bipush hB 16 dX11_init_85 (by decide) ?_
  refine h_newi (t0 := 0) (cA := g.2.2.1 0) hB hK hR rfl k_ac_int 16 (by decide) (by decide) (by decide) (by decide) (by decide) dX11_init_87 (fun q11 => ?_)
  refine u_putF (f := 14) (ty := (.array .int)) tyX11 hB hK hR rfl (by decide) fw_X11_55 uw_X11 tyX11_ok nmX11 rfl rfl rfl rfl rfl (Nat.le_of_ble_eq_true rfl) dX11_init_89 ?_
  refine u_eq (ws' := (q0, .inr (11, [.ref q1, .ref q2, .ref q3, .ref q4, .ref q5, .int 0, .ref q6, .ref q7, .int 0, .ref q8, .ref q9, .int 0, .int 0, .ref q10, .ref q11, .null, .null, .null, .int 0, .null, .null, .int 0, .int 0, .int 0, .int 0, .int 0, .int 0, .int 0, .long 0, .null, .null, .int 0, .int 0, .int 0, .int 0, .null, .int 0, .int 0, .null, .null, .null, .int 0, .int 0, .int 0])) :: _) rfl ?_
  refine u_aload_n hB 0 dX11_init_92 rfl rfl ?_
  refine u_bipush hB 16 dX11_init_93 (by decide) ?_
  refine h_newi (t0 := 0) (cA := g.2.2.1 0) hB hK hR rfl k_ac_int 16 (by decide) (by decide) (by decide) (by decide) (by decide) dX11_init_95 (fun q12 => ?_)
  refine u_putF (f := 15) (ty := (.array .int)) tyX11 hB hK hR rfl (by decide) fw_X11_58 uw_X11 tyX11_ok nmX11 rfl rfl rfl rfl rfl (Nat.le_of_ble_eq_true rfl) dX11_init_97 ?_
  refine u_eq (ws' := (q0, .inr (11, [.ref q1, .ref q2, .ref q3, .ref q4, .ref q5, .int 0, .ref q6, .ref q7, .int 0, .ref q8, .ref q9, .int 0, .int 0, .ref q10, .ref q11, .ref q12, .null, .null, .int 0, .null, .null, .int 0, .int 0, .int 0, .int 0, .int 0, .int 0, .int 0, .long 0, .null, .null, .int 0, .int 0, .int 0, .int 0, .null, .int 0, .int 0, .null, .null, .null, .int 0, .int 0, .int 0])) :: _) rfl ?_
  refine u_aload_n hB 0 dX11_init_100 rfl rfl ?_
  refine u_bipush hB 16 dX11_init_101 (by decide) ?_
  refine h_newi (t0 := 0) (cA := g.2.2.1 0) hB hK hR rfl k_ac_int 16 (by decide) (by decide) (by decide) (by decide) (by decide) dX11_init_103 (fun q13 => ?_)
  refine u_putF (f := 16) (ty := (.array .int)) tyX11 hB hK hR rfl (by decide) fw_X11_61 uw_X11 tyX11_ok nmX11 rfl rfl rfl rfl rfl (Nat.le_of_ble_eq_true rfl) dX11_init_105 ?_
  refine u_eq (ws' := (q0, .inr (11, [.ref q1, .ref q2, .ref q3, .ref q4, .ref q5, .int 0, .ref q6, .ref q7, .int 0, .ref q8, .ref q9, .int 0, .int 0, .ref q10, .ref q11, .ref q12, .ref q13, .null, .int 0, .null, .null, .int 0, .int 0, .int 0, .int 0, .int 0, .int 0, .int 0, .long 0, .null, .null, .int 0, .int 0, .int 0, .int 0, .null, .int 0, .int 0, .null, .null, .null, .int 0, .int 0, .int 0])) :: _) rfl ?_
  refine u_aload_n hB 0 dX11_init_108 rfl rfl ?_
  refine u_bipush hB 16 dX11_init_109 (by decide) ?_
  refine h_newi (t0 := 0) (cA := g.2.2.1 0) hB hK hR rfl k_ac_int 16 (by decide) (by decide) (by decide) (by decide) (by decide) dX11_init_111 (fun q14 => ?_)
  refine u_putF (f := 17) (ty := (.array .int)) tyX11 hB hK hR rfl (by decide) fw_X11_64 uw_X11 tyX11_ok nmX11 rfl rfl rfl rfl rfl (Nat.le_of_ble_eq_true rfl) dX11_init_113 ?_
  refine u_eq (ws' := (q0, .inr (11, [.ref q1, .ref q2, .ref q3, .ref q4, .ref q5, .int 0, .ref q6, .ref q7, .int 0, .ref q8, .ref q9, .int 0, .int 0, .ref q10, .ref q11, .ref q12, .ref q13, .ref q14, .int 0, .null, .null, .int 0, .int 0, .int 0, .int 0, .int 0, .int 0, .int 0, .long 0, .null, .null, .int 0, .int 0, .int 0, .int 0, .null, .int 0, .int 0, .null, .null, .null, .int 0, .int 0, .int 0])) :: _) rfl ?_
  refine u_aload_n hB 0 dX11_init_116 rfl rfl ?_
  refine u_sipush hB 190 dX11_init_117 (by decide) ?_
  refine h_newl (t0 := 1) (cA := g.2.2.1 1) hB hK hR rfl k_ac_long 190 (by decide) (by decide) (by decide) (by decide) (by decide) dX11_init_120 (fun q15 => ?_)
  refine u_putF (f := 19) (ty := (.array .long)) tyX11 hB hK hR rfl (by decide) fw_X11_67 uw_X11 tyX11_ok nmX11 rfl rfl rfl rfl rfl (Nat.le_of_ble_eq_true rfl) dX11_init_122 ?_
  refine u_eq (ws' := (q0, .inr (11, [.ref q1, .ref q2, .ref q3, .ref q4, .ref q5, .int 0, .ref q6, .ref q7, .int 0, .ref q8, .ref q9, .int 0, .int 0, .ref q10, .ref q11, .ref q12, .ref q13, .ref q14, .int 0, .ref q15, .null, .int 0, .int 0, .int 0, .int 0, .int 0, .int 0, .int 0, .long 0, .null, .null, .int 0, .int 0, .int 0, .int 0, .null, .int 0, .int 0, .null, .null, .null, .int 0, .int 0, .int 0])) :: _) rfl ?_
  refine u_aload_n hB 0 dX11_init_125 rfl rfl ?_
  refine u_sipush hB 190 dX11_init_126 (by decide) ?_
  refine h_newl (t0 := 1) (cA := g.2.2.1 1) hB hK hR rfl k_ac_long 190 (by decide) (by decide) (by decide) (by decide) (by decide) dX11_init_129 (fun q16 => ?_)
  refine u_putF (f := 20) (ty := (.array .long)) tyX11 hB hK hR rfl (by decide) fw_X11_70 uw_X11 tyX11_ok nmX11 rfl rfl rfl rfl rfl (Nat.le_of_ble_eq_true rfl) dX11_init_131 ?_
  refine u_eq (ws' := (q0, .inr (11, [.ref q1, .ref q2, .ref q3, .ref q4, .ref q5, .int 0, .ref q6, .ref q7, .int 0, .ref q8, .ref q9, .int 0, .int 0, .ref q10, .ref q11, .ref q12, .ref q13, .ref q14, .int 0, .ref q15, .ref q16, .int 0, .int 0, .int 0, .int 0, .int 0, .int 0, .int 0, .long 0, .null, .null, .int 0, .int 0, .int 0, .int 0, .null, .int 0, .int 0, .null, .null, .null, .int 0, .int 0, .int 0])) :: _) rfl ?_
  refine u_aload_n hB 0 dX11_init_134 rfl rfl ?_
  refine u_bipush hB 112 dX11_init_135 (by decide) ?_
  refine h_newi (t0 := 0) (cA := g.2.2.1 0) hB hK hR rfl k_ac_int 112 (by decide) (by decide) (by decide) (by decide) (by decide) dX11_init_137 (fun q17 => ?_)
  refine u_putF (f := 29) (ty := (.array .int)) tyX11 hB hK hR rfl (by decide) fw_X11_73 uw_X11 tyX11_ok nmX11 rfl rfl rfl rfl rfl (Nat.le_of_ble_eq_true rfl) dX11_init_139 ?_
  refine u_eq (ws' := (q0, .inr (11, [.ref q1, .ref q2, .ref q3, .ref q4, .ref q5, .int 0, .ref q6, .ref q7, .int 0, .ref q8, .ref q9, .int 0, .int 0, .ref q10, .ref q11, .ref q12, .ref q13, .ref q14, .int 0, .ref q15, .ref q16, .int 0, .int 0, .int 0, .int 0, .int 0, .int 0, .int 0, .long 0, .ref q17, .null, .int 0, .int 0, .int 0, .int 0, .null, .int 0, .int 0, .null, .null, .null, .int 0, .int 0, .int 0])) :: _) rfl ?_
  refine u_aload_n hB 0 dX11_init_142 rfl rfl ?_
  refine u_iconst hB 3 dX11_init_143 (by decide) ?_
  refine h_newi (t0 := 0) (cA := g.2.2.1 0) hB hK hR rfl k_ac_int 3 (by decide) (by decide) (by decide) (by decide) (by decide) dX11_init_144 (fun q18 => ?_)
  refine u_putF (f := 30) (ty := (.array .int)) tyX11 hB hK hR rfl (by decide) fw_X11_76 uw_X11 tyX11_ok nmX11 rfl rfl rfl rfl rfl (Nat.le_of_ble_eq_true rfl) dX11_init_146 ?_
  refine u_eq (ws' := (q0, .inr (11, [.ref q1, .ref q2, .ref q3, .ref q4, .ref q5, .int 0, .ref q6, .ref q7, .int 0, .ref q8, .ref q9, .int 0, .int 0, .ref q10, .ref q11, .ref q12, .ref q13, .ref q14, .int 0, .ref q15, .ref q16, .int 0, .int 0, .int 0, .int 0, .int 0, .int 0, .int 0, .long 0, .ref q17, .ref q18, .int 0, .int 0, .int 0, .int 0, .null, .int 0, .int 0, .null, .null, .null, .int 0, .int 0, .int 0])) :: _) rfl ?_
  refine u_aload_n hB 0 dX11_init_149 rfl rfl ?_
  refine u_sipush hB 500 dX11_init_150 (by decide) ?_
  refine h_newi (t0 := 0) (cA := g.2.2.1 0) hB hK hR rfl k_ac_int 500 (by decide) (by decide) (by decide) (by decide) (by decide) dX11_init_153 (fun q19 => ?_)
  refine u_putF (f := 35) (ty := (.array .int)) tyX11 hB hK hR rfl (by decide) fw_X11_79 uw_X11 tyX11_ok nmX11 rfl rfl rfl rfl rfl (Nat.le_of_ble_eq_true rfl) dX11_init_155 ?_
  refine u_eq (ws' := (q0, .inr (11, [.ref q1, .ref q2, .ref q3, .ref q4, .ref q5, .int 0, .ref q6, .ref q7, .int 0, .ref q8, .ref q9, .int 0, .int 0, .ref q10, .ref q11, .ref q12, .ref q13, .ref q14, .int 0, .ref q15, .ref q16, .int 0, .int 0, .int 0, .int 0, .int 0, .int 0, .int 0, .long 0, .ref q17, .ref q18, .int 0, .int 0, .int 0, .int 0, .ref q19, .int 0, .int 0, .null, .null, .null, .int 0, .int 0, .int 0])) :: _) rfl ?_
  refine u_aload_n hB 0 dX11_init_158 rfl rfl ?_
  refine u_iconst hB 3 dX11_init_159 (by decide) ?_
  refine h_newi (t0 := 0) (cA := g.2.2.1 0) hB hK hR rfl k_ac_int 3 (by decide) (by decide) (by decide) (by decide) (by decide) dX11_init_160 (fun q20 => ?_)
  refine u_putF (f := 38) (ty := (.array .int)) tyX11 hB hK hR rfl (by decide) fw_X11_82 uw_X11 tyX11_ok nmX11 rfl rfl rfl rfl rfl (Nat.le_of_ble_eq_true rfl) dX11_init_162 ?_
  refine u_eq (ws' := (q0, .inr (11, [.ref q1, .ref q2, .ref q3, .ref q4, .ref q5, .int 0, .ref q6, .ref q7, .int 0, .ref q8, .ref q9, .int 0, .int 0, .ref q10, .ref q11, .ref q12, .ref q13, .ref q14, .int 0, .ref q15, .ref q16, .int 0, .int 0, .int 0, .int 0, .int 0, .int 0, .int 0, .long 0, .ref q17, .ref q18, .int 0, .int 0, .int 0, .int 0, .ref q19, .int 0, .int 0, .ref q20, .null, .null, .int 0, .int 0, .int 0])) :: _) rfl ?_
  refine u_aload_n hB 0 dX11_init_165 rfl rfl ?_
  refine u_bipush hB 120 dX11_init_166 (by decide) ?_
  refine h_newi (t0 := 0) (cA := g.2.2.1 0) hB hK hR rfl k_ac_int 120 (by decide) (by decide) (by decide) (by decide) (by decide) dX11_init_168 (fun q21 => ?_)
  refine u_putF (f := 39) (ty := (.array .int)) tyX11 hB hK hR rfl (by decide) fw_X11_85 uw_X11 tyX11_ok nmX11 rfl rfl rfl rfl rfl (Nat.le_of_ble_eq_true rfl) dX11_init_170 ?_
  refine u_eq (ws' := (q0, .inr (11, [.ref q1, .ref q2, .ref q3, .ref q4, .ref q5, .int 0, .ref q6, .ref q7, .int 0, .ref q8, .ref q9, .int 0, .int 0, .ref q10, .ref q11, .ref q12, .ref q13, .ref q14, .int 0, .ref q15, .ref q16, .int 0, .int 0, .int 0, .int 0, .int 0, .int 0, .int 0, .long 0, .ref q17, .ref q18, .int 0, .int 0, .int 0, .int 0, .ref q19, .int 0, .int 0, .ref q20, .ref q21, .null, .int 0, .int 0, .int 0])) :: _) rfl ?_
  refine u_aload_n hB 0 dX11_init_173 rfl rfl ?_
  refine u_sipush hB 190 dX11_init_174 (by decide) ?_
  refine h_newi (t0 := 0) (cA := g.2.2.1 0) hB hK hR rfl k_ac_int 190 (by decide) (by decide) (by decide) (by decide) (by decide) dX11_init_177 (fun q22 => ?_)
  refine u_putF (f := 40) (ty := (.array .int)) tyX11 hB hK hR rfl (by decide) fw_X11_88 uw_X11 tyX11_ok nmX11 rfl rfl rfl rfl rfl (Nat.le_of_ble_eq_true rfl) dX11_init_179 ?_
  refine u_eq (ws' := (q0, .inr (11, [.ref q1, .ref q2, .ref q3, .ref q4, .ref q5, .int 0, .ref q6, .ref q7, .int 0, .ref q8, .ref q9, .int 0, .int 0, .ref q10, .ref q11, .ref q12, .ref q13, .ref q14, .int 0, .ref q15, .ref q16, .int 0, .int 0, .int 0, .int 0, .int 0, .int 0, .int 0, .long 0, .ref q17, .ref q18, .int 0, .int 0, .int 0, .int 0, .ref q19, .int 0, .int 0, .ref q20, .ref q21, .ref q22, .int 0, .int 0, .int 0])) :: _) rfl ?_
  refine u_aload_n hB 0 dX11_init_182 rfl rfl ?_
  refine u_bipush hB (-9) dX11_init_183 (by decide) ?_
  refine u_put (f := 42) (ty := .int) tyX11 hB hK hR rfl (by decide) fw_X11_91 uw_X11 tyX11_ok nmX11 rfl rfl rfl rfl (Nat.le_of_ble_eq_true rfl) dX11_init_185 ?_
  refine u_eq (ws' := (q0, .inr (11, [.ref q1, .ref q2, .ref q3, .ref q4, .ref q5, .int 0, .ref q6, .ref q7, .int 0, .ref q8, .ref q9, .int 0, .int 0, .ref q10, .ref q11, .ref q12, .ref q13, .ref q14, .int 0, .ref q15, .ref q16, .int 0, .int 0, .int 0, .int 0, .int 0, .int 0, .int 0, .long 0, .ref q17, .ref q18, .int 0, .int 0, .int 0, .int 0, .ref q19, .int 0, .int 0, .ref q20, .ref q21, .ref q22, .int 0, .int (-9), .int 0])) :: _) rfl ?_
  refine u_iconst hB 0 dX11_init_188 (by decide) ?_
  refine u_eq (ws' := [(q0, .inr (11, [.ref q1, .ref q2, .ref q3, .ref q4, .ref q5, .int 0, .ref q6, .ref q7, .int 0, .ref q8, .ref q9, .int 0, .int 0, .ref q10, .ref q11, .ref q12, .ref q13, .ref q14, .int 0, .ref q15, .ref q16, .int 0, .int 0, .int 0, .int 0, .int 0, .int 0, .int 0, .long 0, .ref q17, .ref q18, .int 0, .int 0, .int 0, .int 0, .ref q19, .int 0, .int 0, .ref q20, .ref q21, .ref q22, .int 0, .int (-9), .int 0])), (q1, .inl (g.2.2.1 0, 7, .inl (fun _ => 0))), (q2, .inl (g.2.2.1 0, 168, .inl (fun _ => 0))), (q3, .inl (g.2.2.1 0, 6, .inl (fun _ => 0))), (q4, .inl (g.2.2.1 0, 6, .inl (fun _ => 0))), (q5, .inl (g.2.2.1 0, 6, .inl (fun _ => 0))), (q6, .inl (g.2.2.1 0, 16, .inl (fun _ => 0))), (q7, .inl (g.2.2.1 0, 16, .inl (fun _ => 0))), (q8, .inl (g.2.2.1 1, 28, .inr (.inl (fun _ => 0)))), (q9, .inl (g.2.2.1 0, 72, .inl (fun _ => 0))), (q10, .inl (g.2.2.1 0, 3, .inl (fun _ => 0))), (q11, .inl (g.2.2.1 0, 16, .inl (fun _ => 0))), (q12, .inl (g.2.2.1 0, 16, .inl (fun _ => 0))), (q13, .inl (g.2.2.1 0, 16, .inl (fun _ => 0))), (q14, .inl (g.2.2.1 0, 16, .inl (fun _ => 0))), (q15, .inl (g.2.2.1 1, 190, .inr (.inl (fun _ => 0)))), (q16, .inl (g.2.2.1 1, 190, .inr (.inl (fun _ => 0)))), (q17, .inl (g.2.2.1 0, 112, .inl (fun _ => 0))), (q18, .inl (g.2.2.1 0, 3, .inl (fun _ => 0))), (q19, .inl (g.2.2.1 0, 500, .inl (fun _ => 0))), (q20, .inl (g.2.2.1 0, 3, .inl (fun _ => 0))), (q21, .inl (g.2.2.1 0, 120, .inl (fun _ => 0))), (q22, .inl (g.2.2.1 0, 190, .inl (fun _ => 0)))]) rfl ?_
  refine u_istore_n hB [(0, .ref q0), (1, .int 0)] [1, 0] dX11_init_189 rfl (by decide) rfl ?_
  refine u_iload_n hB 1 dX11_init_190 rfl rfl ?_
  refine u_iconst hB 3 dX11_init_191 (by decide) ?_
  refine u_geN (tgt := 209) hB dX11_init_192 rfl (by decide) ?_
  refine u_aload_n hB 0 dX11_init_195 rfl rfl ?_
  refine u_get (f := 38) hB hK rfl (by decide) fw_X11_82 uw_X11 rfl dX11_init_196 ?_
  refine u_iload_n hB 1 dX11_init_199 rfl rfl ?_
  refine u_bipush hB (-9) dX11_init_200 (by decide) ?_
  refine u_iast (t0 := 0) 20 hB hK rfl rfl (by unfold vp_in; decide) dX11_init_202 ?_
  refine u_eq (ws' := [(q0, .inr (11, [.ref q1, .ref q2, .ref q3, .ref q4, .ref q5, .int 0, .ref q6, .ref q7, .int 0, .ref q8, .ref q9, .int 0, .int 0, .ref q10, .ref q11, .ref q12, .ref q13, .ref q14, .int 0, .ref q15, .ref q16, .int 0, .int 0, .int 0, .int 0, .int 0, .int 0, .int 0, .long 0, .ref q17, .ref q18, .int 0, .int 0, .int 0, .int 0, .ref q19, .int 0, .int 0, .ref q20, .ref q21, .ref q22, .int 0, .int (-9), .int 0])), (q1, .inl (g.2.2.1 0, 7, .inl (fun _ => 0))), (q2, .inl (g.2.2.1 0, 168, .inl (fun _ => 0))), (q3, .inl (g.2.2.1 0, 6, .inl (fun _ => 0))), (q4, .inl (g.2.2.1 0, 6, .inl (fun _ => 0))), (q5, .inl (g.2.2.1 0, 6, .inl (fun _ => 0))), (q6, .inl (g.2.2.1 0, 16, .inl (fun _ => 0))), (q7, .inl (g.2.2.1 0, 16, .inl (fun _ => 0))), (q8, .inl (g.2.2.1 1, 28, .inr (.inl (fun _ => 0)))), (q9, .inl (g.2.2.1 0, 72, .inl (fun _ => 0))), (q10, .inl (g.2.2.1 0, 3, .inl (fun _ => 0))), (q11, .inl (g.2.2.1 0, 16, .inl (fun _ => 0))), (q12, .inl (g.2.2.1 0, 16, .inl (fun _ => 0))), (q13, .inl (g.2.2.1 0, 16, .inl (fun _ => 0))), (q14, .inl (g.2.2.1 0, 16, .inl (fun _ => 0))), (q15, .inl (g.2.2.1 1, 190, .inr (.inl (fun _ => 0)))), (q16, .inl (g.2.2.1 1, 190, .inr (.inl (fun _ => 0)))), (q17, .inl (g.2.2.1 0, 112, .inl (fun _ => 0))), (q18, .inl (g.2.2.1 0, 3, .inl (fun _ => 0))), (q19, .inl (g.2.2.1 0, 500, .inl (fun _ => 0))), (q20, .inl (g.2.2.1 0, 3, .inl (upd (fun _ => 0) 0 (-9)))), (q21, .inl (g.2.2.1 0, 120, .inl (fun _ => 0))), (q22, .inl (g.2.2.1 0, 190, .inl (fun _ => 0)))]) rfl ?_
  refine u_iinc hB 1 [(0, .ref q0), (1, .int 1)] 1 [1, 0] dX11_init_203 rfl (by decide) (by decide) rfl ?_
  refine u_goto (tgt := 190) hB dX11_init_206 rfl ?_
  refine u_iload_n hB 1 dX11_init_190 rfl rfl ?_
  refine u_iconst hB 3 dX11_init_191 (by decide) ?_
  refine u_geN (tgt := 209) hB dX11_init_192 rfl (by decide) ?_
  refine u_aload_n hB 0 dX11_init_195 rfl rfl ?_
  refine u_get (f := 38) hB hK rfl (by decide) fw_X11_82 uw_X11 rfl dX11_init_196 ?_
  refine u_iload_n hB 1 dX11_init_199 rfl rfl ?_
  refine u_bipush hB (-9) dX11_init_200 (by decide) ?_
  refine u_iast (t0 := 0) 20 hB hK rfl rfl (by unfold vp_in; decide) dX11_init_202 ?_
  refine u_eq (ws' := [(q0, .inr (11, [.ref q1, .ref q2, .ref q3, .ref q4, .ref q5, .int 0, .ref q6, .ref q7, .int 0, .ref q8, .ref q9, .int 0, .int 0, .ref q10, .ref q11, .ref q12, .ref q13, .ref q14, .int 0, .ref q15, .ref q16, .int 0, .int 0, .int 0, .int 0, .int 0, .int 0, .int 0, .long 0, .ref q17, .ref q18, .int 0, .int 0, .int 0, .int 0, .ref q19, .int 0, .int 0, .ref q20, .ref q21, .ref q22, .int 0, .int (-9), .int 0])), (q1, .inl (g.2.2.1 0, 7, .inl (fun _ => 0))), (q2, .inl (g.2.2.1 0, 168, .inl (fun _ => 0))), (q3, .inl (g.2.2.1 0, 6, .inl (fun _ => 0))), (q4, .inl (g.2.2.1 0, 6, .inl (fun _ => 0))), (q5, .inl (g.2.2.1 0, 6, .inl (fun _ => 0))), (q6, .inl (g.2.2.1 0, 16, .inl (fun _ => 0))), (q7, .inl (g.2.2.1 0, 16, .inl (fun _ => 0))), (q8, .inl (g.2.2.1 1, 28, .inr (.inl (fun _ => 0)))), (q9, .inl (g.2.2.1 0, 72, .inl (fun _ => 0))), (q10, .inl (g.2.2.1 0, 3, .inl (fun _ => 0))), (q11, .inl (g.2.2.1 0, 16, .inl (fun _ => 0))), (q12, .inl (g.2.2.1 0, 16, .inl (fun _ => 0))), (q13, .inl (g.2.2.1 0, 16, .inl (fun _ => 0))), (q14, .inl (g.2.2.1 0, 16, .inl (fun _ => 0))), (q15, .inl (g.2.2.1 1, 190, .inr (.inl (fun _ => 0)))), (q16, .inl (g.2.2.1 1, 190, .inr (.inl (fun _ => 0)))), (q17, .inl (g.2.2.1 0, 112, .inl (fun _ => 0))), (q18, .inl (g.2.2.1 0, 3, .inl (fun _ => 0))), (q19, .inl (g.2.2.1 0, 500, .inl (fun _ => 0))), (q20, .inl (g.2.2.1 0, 3, .inl (upd (upd (fun _ => 0) 0 (-9)) 1 (-9)))), (q21, .inl (g.2.2.1 0, 120, .inl (fun _ => 0))), (q22, .inl (g.2.2.1 0, 190, .inl (fun _ => 0)))]) rfl ?_
  refine u_iinc hB 2 [(0, .ref q0), (1, .int 2)] 1 [1, 0] dX11_init_203 rfl (by decide) (by decide) rfl ?_
  refine u_goto (tgt := 190) hB dX11_init_206 rfl ?_
  refine u_iload_n hB 1 dX11_init_190 rfl rfl ?_
  refine u_iconst hB 3 dX11_init_191 (by decide) ?_
  refine u_geN (tgt := 209) hB dX11_init_192 rfl (by decide) ?_
  refine u_aload_n hB 0 dX11_init_195 rfl rfl ?_
  refine u_get (f := 38) hB hK rfl (by decide) fw_X11_82 uw_X11 rfl dX11_init_196 ?_
  refine u_iload_n hB 1 dX11_init_199 rfl rfl ?_
  refine u_bipush hB (-9) dX11_init_200 (by decide) ?_
  refine u_iast (t0 := 0) 20 hB hK rfl rfl (by unfold vp_in; decide) dX11_init_202 ?_
  refine u_eq (ws' := [(q0, .inr (11, [.ref q1, .ref q2, .ref q3, .ref q4, .ref q5, .int 0, .ref q6, .ref q7, .int 0, .ref q8, .ref q9, .int 0, .int 0, .ref q10, .ref q11, .ref q12, .ref q13, .ref q14, .int 0, .ref q15, .ref q16, .int 0, .int 0, .int 0, .int 0, .int 0, .int 0, .int 0, .long 0, .ref q17, .ref q18, .int 0, .int 0, .int 0, .int 0, .ref q19, .int 0, .int 0, .ref q20, .ref q21, .ref q22, .int 0, .int (-9), .int 0])), (q1, .inl (g.2.2.1 0, 7, .inl (fun _ => 0))), (q2, .inl (g.2.2.1 0, 168, .inl (fun _ => 0))), (q3, .inl (g.2.2.1 0, 6, .inl (fun _ => 0))), (q4, .inl (g.2.2.1 0, 6, .inl (fun _ => 0))), (q5, .inl (g.2.2.1 0, 6, .inl (fun _ => 0))), (q6, .inl (g.2.2.1 0, 16, .inl (fun _ => 0))), (q7, .inl (g.2.2.1 0, 16, .inl (fun _ => 0))), (q8, .inl (g.2.2.1 1, 28, .inr (.inl (fun _ => 0)))), (q9, .inl (g.2.2.1 0, 72, .inl (fun _ => 0))), (q10, .inl (g.2.2.1 0, 3, .inl (fun _ => 0))), (q11, .inl (g.2.2.1 0, 16, .inl (fun _ => 0))), (q12, .inl (g.2.2.1 0, 16, .inl (fun _ => 0))), (q13, .inl (g.2.2.1 0, 16, .inl (fun _ => 0))), (q14, .inl (g.2.2.1 0, 16, .inl (fun _ => 0))), (q15, .inl (g.2.2.1 1, 190, .inr (.inl (fun _ => 0)))), (q16, .inl (g.2.2.1 1, 190, .inr (.inl (fun _ => 0)))), (q17, .inl (g.2.2.1 0, 112, .inl (fun _ => 0))), (q18, .inl (g.2.2.1 0, 3, .inl (fun _ => 0))), (q19, .inl (g.2.2.1 0, 500, .inl (fun _ => 0))), (q20, .inl (g.2.2.1 0, 3, .inl (upd (upd (upd (fun _ => 0) 0 (-9)) 1 (-9)) 2 (-9)))), (q21, .inl (g.2.2.1 0, 120, .inl (fun _ => 0))), (q22, .inl (g.2.2.1 0, 190, .inl (fun _ => 0)))]) rfl ?_
  refine u_iinc hB 3 [(0, .ref q0), (1, .int 3)] 1 [1, 0] dX11_init_203 rfl (by decide) (by decide) rfl ?_
  refine u_goto (tgt := 190) hB dX11_init_206 rfl ?_
  refine u_iload_n hB 1 dX11_init_190 rfl rfl ?_
  refine u_iconst hB 3 dX11_init_191 (by decide) ?_
  refine u_geY (tgt := 209) hB dX11_init_192 rfl (by decide) ?_
  exact u_vret (fun i => ([q1, q2, q3, q4, q5, q6, q7, q8, q9, q10, q11, q12, q13, q14, q15, q16, q17, q18, q19, q20, q21, q22] : List Nat).getD i 0) hB hK hR rfl (by decide) (by decide) dX11_init_209
end
section
/-! the cells that the constructors make, as sides of numbers -/
def prC : Nat → Nat := fun p => ([6, 10, 14, 18, 22, 26, 8, 12, 16, 20, 24, 28, 7, 11, 15, 19, 23, 27, 9, 13, 17, 21, 25, 29, 42, 43, 44, 45, 46, 47, 48, 49, 50, 51, 52, 53, 54, 55, 56, 57, 58, 59, 60, 61, 62, 63, 64, 65, 66, 67, 68, 69, 78, 79, 80, 0, 1, 2, 3, 4, 5, 30, 31, 32, 33, 34, 35, 36, 37, 38, 39, 40, 41, 70, 71, 72, 73, 74, 75, 76, 77, 81, 82] : List Nat).getD p 0
def adC (q : Nat) (a : Nat → Nat) : Nat → Nat := fun p => if prC p = 0 then q else a (prC p - 1)
def hC0 : pq_H := (fun p => if p = 56 then (fun k => if k = 4 then -1 else 0) else if p = 81 then upd (upd (upd (fun _ => 0) 0 (-1)) 1 (-1)) 2 (-1) else fun _ => 0, fun _ _ => 0, fun p => if p = 72 then (fun t => if t < 28 then some (24 + t) else none) else fun _ => none)
theorem w_conv {ws ws' : va_W} {N : Nat} {pr : Nat → Nat} {f : Nat → Nat × va_E} (h0 : ws' = (List.range N).map f) (h : ∀ p, p < N → ws[pr p]? = some (f p)) (hn : va_nd ((List.range N).map pr) = true) {D : va_G} {cl : List vw_C} {H : Heap} {A : Nat → Prop} (hP : va_P D cl ws H) (hD : va_D A ws) : va_P D cl ws' H ∧ va_D A ws' := by
  have h3 : ((List.range N).map pr).map (fun i => ws[i]?) = ws'.map some := by
    rw [h0, List.map_map, List.map_map]
    exact List.map_congr_left (fun p hp => h p (List.mem_range.mp hp))
  have h1 : ((List.range N).map pr).filterMap (fun i => ws[i]?) = ws' := by
    have e : ((List.range N).map pr).filterMap (fun i => ws[i]?) = (((List.range N).map pr).map (fun i => ws[i]?)).filterMap id := by
      simp only [List.filterMap_map, Function.comp_def, id]
    rw [e, h3, List.filterMap_map]
    exact List.filterMap_some
  exact ⟨hP.sub _ h1, hD.sub _ hn h3⟩
theorem w_up6 {A : Nat → Nat} {a0 a1 a2 a3 a4 a5 : Nat} (h : A 0 = a0 ∧ A 1 = a1 ∧ A 2 = a2 ∧ A 3 = a3 ∧ A 4 = a4 ∧ A 5 = a5) : va_up (va_up (va_up (va_up (va_up (va_up (fun _ => none) 0 (some a0)) 1 (some a1)) 2 (some a2)) 3 (some a3)) 4 (some a4)) 5 (some a5) = fun t => if t < 6 then some (A t) else none := by
  obtain ⟨rfl, rfl, rfl, rfl, rfl, rfl⟩ := h
  funext t
  match t with
  | 0 => rfl
  | 1 => rfl
  | 2 => rfl
  | 3 => rfl
  | 4 => rfl
  | 5 => rfl
  | n + 6 =>
    rw [if_neg (by omega)]
    unfold va_up
    simp
theorem w_row {N : Nat} {u v : Nat → Nat} (h : ∀ t, t < N → u t = v t) : (fun t => if t < N then some (u t) else none) = fun t => if t < N then some (v t) else none := funext fun t => by
  by_cases ht : t < N
  · rw [if_pos ht, if_pos ht, h t ht]
  · rw [if_neg ht, if_neg ht]
theorem w_rowm {N : Nat} {u v A : Nat → Nat} (h : ∀ t, t < N → u t = A (v t)) : (fun t => if t < N then some (u t) else none) = fun t => (if t < N then some (v t) else none : Option Nat).map A := funext fun t => by
  by_cases ht : t < N
  · rw [if_pos ht, if_pos ht, h t ht]; rfl
  · rw [if_neg ht, if_neg ht]; rfl
set_option maxRecDepth 20000 in
set_option maxHeartbeats 4000000 in
theorem wk_C (g : pq_g) (q : Nat) (a : Nat → Nat) : ∀ p, p < 83 → (W_X10 g q a)[prC p]? = some (adC q a p, cellC (adC q a, g.2) p (hC0.1 p) (hC0.2.1 p) (hC0.2.2 p)) := fun p hp => match p, hp with
  | 0, _ => rfl
  | 1, _ => rfl
  | 2, _ => rfl
  | 3, _ => rfl
  | 4, _ => rfl
  | 5, _ => rfl
  | 6, _ => rfl
  | 7, _ => rfl
  | 8, _ => rfl
  | 9, _ => rfl
  | 10, _ => rfl
  | 11, _ => rfl
  | 12, _ => rfl
  | 13, _ => rfl
  | 14, _ => rfl
  | 15, _ => rfl
  | 16, _ => rfl
  | 17, _ => rfl
  | 18, _ => rfl
  | 19, _ => rfl
  | 20, _ => rfl
  | 21, _ => rfl
  | 22, _ => rfl
  | 23, _ => rfl
  | 24, _ => rfl
  | 25, _ => rfl
  | 26, _ => rfl
  | 27, _ => rfl
  | 28, _ => rfl
  | 29, _ => rfl
  | 30, _ => rfl
  | 31, _ => rfl
  | 32, _ => rfl
  | 33, _ => rfl
  | 34, _ => rfl
  | 35, _ => rfl
  | 36, _ => rfl
  | 37, _ => rfl
  | 38, _ => rfl
  | 39, _ => rfl
  | 40, _ => rfl
  | 41, _ => rfl
  | 42, _ => rfl
  | 43, _ => rfl
  | 44, _ => rfl
  | 45, _ => rfl
  | 46, _ => rfl
  | 47, _ => rfl
  | 48, _ => rfl
  | 49, _ => rfl
  | 50, _ => rfl
  | 51, _ => rfl
  | 52, _ => rfl
  | 53, _ => rfl
  | 54, _ => rfl
  | 55, _ => rfl
  | 56, _ => rfl
  | 57, _ => by
    refine congrArg some (Prod.ext rfl ?_)
    exact congrArg (fun f => (.inl (g.2.2.1 2, 6, .inr (.inr (.inr (.inr f)))) : va_E)) (w_up6 (A := adC q a) ⟨rfl, rfl, rfl, rfl, rfl, rfl⟩)
  | 58, _ => by
    refine congrArg some (Prod.ext rfl ?_)
    exact congrArg (fun f => (.inl (g.2.2.1 2, 6, .inr (.inr (.inr (.inr f)))) : va_E)) (w_up6 (A := fun t => adC q a (6 + t)) ⟨rfl, rfl, rfl, rfl, rfl, rfl⟩)
  | 59, _ => rfl
  | 60, _ => rfl
  | 61, _ => rfl
  | 62, _ => rfl
  | 63, _ => rfl
  | 64, _ => rfl
  | 65, _ => rfl
  | 66, _ => rfl
  | 67, _ => rfl
  | 68, _ => rfl
  | 69, _ => rfl
  | 70, _ => rfl
  | 71, _ => rfl
  | 72, _ => by
    refine congrArg some (Prod.ext rfl ?_)
    exact congrArg (fun f => (.inl (g.2.2.1 4, 28, .inr (.inr (.inr (.inr f)))) : va_E)) (w_rowm (A := adC q a) (v := fun t => 24 + t) (fun t ht => match t, ht with | 0, _ => rfl | 1, _ => rfl | 2, _ => rfl | 3, _ => rfl | 4, _ => rfl | 5, _ => rfl | 6, _ => rfl | 7, _ => rfl | 8, _ => rfl | 9, _ => rfl | 10, _ => rfl | 11, _ => rfl | 12, _ => rfl | 13, _ => rfl | 14, _ => rfl | 15, _ => rfl | 16, _ => rfl | 17, _ => rfl | 18, _ => rfl | 19, _ => rfl | 20, _ => rfl | 21, _ => rfl | 22, _ => rfl | 23, _ => rfl | 24, _ => rfl | 25, _ => rfl | 26, _ => rfl | 27, _ => rfl | n + 28, h => absurd h (by omega)))
  | 73, _ => rfl
  | 74, _ => rfl
  | 75, _ => rfl
  | 76, _ => rfl
  | 77, _ => rfl
  | 78, _ => rfl
  | 79, _ => rfl
  | 80, _ => by
    refine congrArg some (Prod.ext rfl ?_)
    exact congrArg (fun f => (.inl (g.2.2.1 3, 3, .inr (.inr (.inr (.inr f)))) : va_E)) (w_row (v := fun t => adC q a (52 + t)) (fun t ht => match t, ht with | 0, _ => rfl | 1, _ => rfl | 2, _ => rfl | n + 3, h => absurd h (by omega)))
  | 81, _ => rfl
  | 82, _ => rfl
  | n + 83, h => absurd h (by omega)
set_option maxRecDepth 20000 in
theorem w_C {g : pq_g} {q : Nat} {a : Nat → Nat} {D : va_G} {cl : List vw_C} {H : Heap} {A : Nat → Prop} (hP : va_P D cl (W_X10 g q a) H) (hD : va_D A (W_X10 g q a)) : va_P D cl (pq_W (SC (adC q a, g.2)) hC0) H ∧ va_D A (pq_W (SC (adC q a, g.2)) hC0) := w_conv (N := 83) (pr := prC) rfl (wk_C g q a) (by decide +kernel) hP hD
def adM (q : Nat) (a : Nat → Nat) : Nat → Nat := fun p => if p = 0 then q else a (p - 1)
def hM0 : pq_H := (fun p => if p = 0 then (fun k => if k = 42 then -9 else 0) else if p = 20 then upd (upd (upd (fun _ => 0) 0 (-9)) 1 (-9)) 2 (-9) else fun _ => 0, fun _ _ => 0, fun _ _ => none)
set_option maxRecDepth 20000 in
set_option maxHeartbeats 4000000 in
theorem wk_M (g : pq_g) (q : Nat) (a : Nat → Nat) : ∀ p, p < 23 → (W_X11 g q a)[p]? = some (adM q a p, cellM (adM q a, g.2) p (hM0.1 p) (hM0.2.1 p) (hM0.2.2 p)) := fun p hp => match p, hp with
  | 0, _ => rfl
  | 1, _ => rfl
  | 2, _ => rfl
  | 3, _ => rfl
  | 4, _ => rfl
  | 5, _ => rfl
  | 6, _ => rfl
  | 7, _ => rfl
  | 8, _ => rfl
  | 9, _ => rfl
  | 10, _ => rfl
  | 11, _ => rfl
  | 12, _ => rfl
  | 13, _ => rfl
  | 14, _ => rfl
  | 15, _ => rfl
  | 16, _ => rfl
  | 17, _ => rfl
  | 18, _ => rfl
  | 19, _ => rfl
  | 20, _ => rfl
  | 21, _ => rfl
  | 22, _ => rfl
  | n + 23, h => absurd h (by omega)
set_option maxRecDepth 20000 in
theorem w_M {g : pq_g} {q : Nat} {a : Nat → Nat} {D : va_G} {cl : List vw_C} {H : Heap} {A : Nat → Prop} (hP : va_P D cl (W_X11 g q a) H) (hD : va_D A (W_X11 g q a)) : va_P D cl (pq_W (SM (adM q a, g.2)) hM0) H ∧ va_D A (pq_W (SM (adM q a, g.2)) hM0) := w_conv (N := 23) (pr := fun p => p) rfl (wk_M g q a) (by decide +kernel) hP hD
end
