-- ===== PART A: goes FIRST, ahead of the names: the tables' words, and 'selects' of the private methods out of them =====
/-- a private method of a class that the tables say can be made, by its rows of tables_1 -/
def lw_okq (q : MethodName × Nat) : Prop := (q.1.cls ≠ "java/lang/invoke/MethodHandle" ∧ q.1.cls ≠ "java/lang/invoke/VarHandle") ∧ Cond.instantiable q.1.cls q.2 ∈ tables_1 ∧ Cond.privateMethod q.1 ∈ tables_1 ∧ Cond.instanceMethod q.1 ∈ tables_1
theorem lw_p0 : lw_okq (⟨"BillWall$Reader", "skipBlanks", "()V"⟩, 8) := ⟨⟨by decide +kernel, by decide +kernel⟩, List.mem_of_getElem? (i := 118) (by decide +kernel), List.mem_of_getElem? (i := 418) (by decide +kernel), List.mem_of_getElem? (i := 419) (by decide +kernel)⟩
theorem lw_p1 : lw_okq (⟨"BillWall$Reader", "isFaultless", "()Z"⟩, 8) := ⟨⟨by decide +kernel, by decide +kernel⟩, List.mem_of_getElem? (i := 118) (by decide +kernel), List.mem_of_getElem? (i := 422) (by decide +kernel), List.mem_of_getElem? (i := 423) (by decide +kernel)⟩
theorem lw_p2 : lw_okq (⟨"BillWall$Reader", "readClause", "(LBillWall$Plan;)V"⟩, 8) := ⟨⟨by decide +kernel, by decide +kernel⟩, List.mem_of_getElem? (i := 118) (by decide +kernel), List.mem_of_getElem? (i := 426) (by decide +kernel), List.mem_of_getElem? (i := 427) (by decide +kernel)⟩
theorem lw_p3 : lw_okq (⟨"BillWall$Reader", "readWord", "()I"⟩, 8) := ⟨⟨by decide +kernel, by decide +kernel⟩, List.mem_of_getElem? (i := 118) (by decide +kernel), List.mem_of_getElem? (i := 430) (by decide +kernel), List.mem_of_getElem? (i := 431) (by decide +kernel)⟩
theorem lw_p4 : lw_okq (⟨"BillWall$Reader", "spells", "(ILjava/lang/String;)Z"⟩, 8) := ⟨⟨by decide +kernel, by decide +kernel⟩, List.mem_of_getElem? (i := 118) (by decide +kernel), List.mem_of_getElem? (i := 447) (by decide +kernel), List.mem_of_getElem? (i := 448) (by decide +kernel)⟩
theorem lw_p5 : lw_okq (⟨"BillWall$Reader", "isSizeTooLate", "()Z"⟩, 8) := ⟨⟨by decide +kernel, by decide +kernel⟩, List.mem_of_getElem? (i := 118) (by decide +kernel), List.mem_of_getElem? (i := 499) (by decide +kernel), List.mem_of_getElem? (i := 500) (by decide +kernel)⟩
theorem lw_p6 : lw_okq (⟨"BillWall$Reader", "fail", "(II)V"⟩, 8) := ⟨⟨by decide +kernel, by decide +kernel⟩, List.mem_of_getElem? (i := 118) (by decide +kernel), List.mem_of_getElem? (i := 506) (by decide +kernel), List.mem_of_getElem? (i := 507) (by decide +kernel)⟩
theorem lw_p7 : lw_okq (⟨"BillWall$Reader", "isTold", "(LBillWall$Plan;I)Z"⟩, 8) := ⟨⟨by decide +kernel, by decide +kernel⟩, List.mem_of_getElem? (i := 118) (by decide +kernel), List.mem_of_getElem? (i := 510) (by decide +kernel), List.mem_of_getElem? (i := 511) (by decide +kernel)⟩
theorem lw_p8 : lw_okq (⟨"BillWall$Reader", "readNumbers", "(LBillWall$Plan;I)V"⟩, 8) := ⟨⟨by decide +kernel, by decide +kernel⟩, List.mem_of_getElem? (i := 118) (by decide +kernel), List.mem_of_getElem? (i := 514) (by decide +kernel), List.mem_of_getElem? (i := 515) (by decide +kernel)⟩
theorem lw_p9 : lw_okq (⟨"BillWall$Reader", "readNumber", "(II)I"⟩, 8) := ⟨⟨by decide +kernel, by decide +kernel⟩, List.mem_of_getElem? (i := 118) (by decide +kernel), List.mem_of_getElem? (i := 518) (by decide +kernel), List.mem_of_getElem? (i := 519) (by decide +kernel)⟩
theorem lw_p10 : lw_okq (⟨"BillWall$Reader", "readStrip", "(LBillWall$Plan;)V"⟩, 8) := ⟨⟨by decide +kernel, by decide +kernel⟩, List.mem_of_getElem? (i := 118) (by decide +kernel), List.mem_of_getElem? (i := 525) (by decide +kernel), List.mem_of_getElem? (i := 526) (by decide +kernel)⟩
theorem lw_p11 : lw_okq (⟨"BillWall$Reader", "readPassers", "(LBillWall$Plan;)V"⟩, 8) := ⟨⟨by decide +kernel, by decide +kernel⟩, List.mem_of_getElem? (i := 118) (by decide +kernel), List.mem_of_getElem? (i := 533) (by decide +kernel), List.mem_of_getElem? (i := 534) (by decide +kernel)⟩
theorem lw_p12 : lw_okq (⟨"BillWall$Reader", "readKind", "(LBillWall$Plan;)V"⟩, 8) := ⟨⟨by decide +kernel, by decide +kernel⟩, List.mem_of_getElem? (i := 118) (by decide +kernel), List.mem_of_getElem? (i := 537) (by decide +kernel), List.mem_of_getElem? (i := 538) (by decide +kernel)⟩
theorem lw_p13 : lw_okq (⟨"BillWall$Reader", "readEnd", "()V"⟩, 8) := ⟨⟨by decide +kernel, by decide +kernel⟩, List.mem_of_getElem? (i := 118) (by decide +kernel), List.mem_of_getElem? (i := 545) (by decide +kernel), List.mem_of_getElem? (i := 546) (by decide +kernel)⟩
theorem lw_p14 : lw_okq (⟨"BillWall$Sight", "hide", "(III)I"⟩, 8) := ⟨⟨by decide +kernel, by decide +kernel⟩, List.mem_of_getElem? (i := 228) (by decide +kernel), List.mem_of_getElem? (i := 630) (by decide +kernel), List.mem_of_getElem? (i := 631) (by decide +kernel)⟩
theorem lw_p15 : lw_okq (⟨"BillWall$Sight", "weighLoss", "(LBillWall$Bills;II)V"⟩, 8) := ⟨⟨by decide +kernel, by decide +kernel⟩, List.mem_of_getElem? (i := 228) (by decide +kernel), List.mem_of_getElem? (i := 639) (by decide +kernel), List.mem_of_getElem? (i := 640) (by decide +kernel)⟩
def lw_privs_1 : List (MethodName × Nat) := [(⟨"BillWall$Reader", "skipBlanks", "()V"⟩, 8), (⟨"BillWall$Reader", "isFaultless", "()Z"⟩, 8), (⟨"BillWall$Reader", "readClause", "(LBillWall$Plan;)V"⟩, 8), (⟨"BillWall$Reader", "readWord", "()I"⟩, 8), (⟨"BillWall$Reader", "spells", "(ILjava/lang/String;)Z"⟩, 8), (⟨"BillWall$Reader", "isSizeTooLate", "()Z"⟩, 8), (⟨"BillWall$Reader", "fail", "(II)V"⟩, 8), (⟨"BillWall$Reader", "isTold", "(LBillWall$Plan;I)Z"⟩, 8), (⟨"BillWall$Reader", "readNumbers", "(LBillWall$Plan;I)V"⟩, 8), (⟨"BillWall$Reader", "readNumber", "(II)I"⟩, 8), (⟨"BillWall$Reader", "readStrip", "(LBillWall$Plan;)V"⟩, 8), (⟨"BillWall$Reader", "readPassers", "(LBillWall$Plan;)V"⟩, 8), (⟨"BillWall$Reader", "readKind", "(LBillWall$Plan;)V"⟩, 8), (⟨"BillWall$Reader", "readEnd", "()V"⟩, 8), (⟨"BillWall$Sight", "hide", "(III)I"⟩, 8), (⟨"BillWall$Sight", "weighLoss", "(LBillWall$Bills;II)V"⟩, 8)]
theorem lw_r1 : ∀ q ∈ lw_privs_1, lw_okq q := List.forall_mem_cons.mpr ⟨lw_p0, List.forall_mem_cons.mpr ⟨lw_p1, List.forall_mem_cons.mpr ⟨lw_p2, List.forall_mem_cons.mpr ⟨lw_p3, List.forall_mem_cons.mpr ⟨lw_p4, List.forall_mem_cons.mpr ⟨lw_p5, List.forall_mem_cons.mpr ⟨lw_p6, List.forall_mem_cons.mpr ⟨lw_p7, List.forall_mem_cons.mpr ⟨lw_p8, List.forall_mem_cons.mpr ⟨lw_p9, List.forall_mem_cons.mpr ⟨lw_p10, List.forall_mem_cons.mpr ⟨lw_p11, List.forall_mem_cons.mpr ⟨lw_p12, List.forall_mem_cons.mpr ⟨lw_p13, List.forall_mem_cons.mpr ⟨lw_p14, List.forall_mem_cons.mpr ⟨lw_p15, fun _ h => absurd h List.not_mem_nil⟩⟩⟩⟩⟩⟩⟩⟩⟩⟩⟩⟩⟩⟩⟩⟩
theorem lw_p16 : lw_okq (⟨"BillWall$Lifting", "lookUnder", "(LBillWall$Bills;I)V"⟩, 4) := ⟨⟨by decide +kernel, by decide +kernel⟩, List.mem_of_getElem? (i := 262) (by decide +kernel), List.mem_of_getElem? (i := 736) (by decide +kernel), List.mem_of_getElem? (i := 737) (by decide +kernel)⟩
theorem lw_p17 : lw_okq (⟨"BillWall$Lifting", "isLiftable", "(LBillWall$Bills;I)Z"⟩, 4) := ⟨⟨by decide +kernel, by decide +kernel⟩, List.mem_of_getElem? (i := 262) (by decide +kernel), List.mem_of_getElem? (i := 749) (by decide +kernel), List.mem_of_getElem? (i := 750) (by decide +kernel)⟩
theorem lw_p18 : lw_okq (⟨"BillWall$Lifting", "seenWithout", "(I)I"⟩, 4) := ⟨⟨by decide +kernel, by decide +kernel⟩, List.mem_of_getElem? (i := 262) (by decide +kernel), List.mem_of_getElem? (i := 753) (by decide +kernel), List.mem_of_getElem? (i := 754) (by decide +kernel)⟩
theorem lw_p19 : lw_okq (⟨"BillWall$Bills", "drawOfHundred", "()I"⟩, 12) := ⟨⟨by decide +kernel, by decide +kernel⟩, List.mem_of_getElem? (i := 153) (by decide +kernel), List.mem_of_getElem? (i := 783) (by decide +kernel), List.mem_of_getElem? (i := 784) (by decide +kernel)⟩
theorem lw_p20 : lw_okq (⟨"BillWall$Photograph", "relate", "()Z"⟩, 7) := ⟨⟨by decide +kernel, by decide +kernel⟩, List.mem_of_getElem? (i := 332) (by decide +kernel), List.mem_of_getElem? (i := 836) (by decide +kernel), List.mem_of_getElem? (i := 837) (by decide +kernel)⟩
theorem lw_p21 : lw_okq (⟨"BillWall$Photograph", "hasOrder", "()Z"⟩, 7) := ⟨⟨by decide +kernel, by decide +kernel⟩, List.mem_of_getElem? (i := 332) (by decide +kernel), List.mem_of_getElem? (i := 849) (by decide +kernel), List.mem_of_getElem? (i := 850) (by decide +kernel)⟩
theorem lw_p22 : lw_okq (⟨"BillWall$Photograph", "leastThatCanStand", "(I)I"⟩, 7) := ⟨⟨by decide +kernel, by decide +kernel⟩, List.mem_of_getElem? (i := 332) (by decide +kernel), List.mem_of_getElem? (i := 853) (by decide +kernel), List.mem_of_getElem? (i := 854) (by decide +kernel)⟩
theorem lw_p23 : lw_okq (⟨"BillWall$Places", "isBetter", "(I)Z"⟩, 11) := ⟨⟨by decide +kernel, by decide +kernel⟩, List.mem_of_getElem? (i := 281) (by decide +kernel), List.mem_of_getElem? (i := 876) (by decide +kernel), List.mem_of_getElem? (i := 877) (by decide +kernel)⟩
theorem lw_p24 : lw_okq (⟨"BillWall$Places", "findSecond", "(IIII)V"⟩, 11) := ⟨⟨by decide +kernel, by decide +kernel⟩, List.mem_of_getElem? (i := 281) (by decide +kernel), List.mem_of_getElem? (i := 894) (by decide +kernel), List.mem_of_getElem? (i := 895) (by decide +kernel)⟩
theorem lw_p25 : lw_okq (⟨"BillWall$Places", "takeTurn", "(I)V"⟩, 11) := ⟨⟨by decide +kernel, by decide +kernel⟩, List.mem_of_getElem? (i := 281) (by decide +kernel), List.mem_of_getElem? (i := 912) (by decide +kernel), List.mem_of_getElem? (i := 913) (by decide +kernel)⟩
theorem lw_p26 : lw_okq (⟨"BillWall", "imageOf", "(I)LBillWall$Image;"⟩, 10) := ⟨⟨by decide +kernel, by decide +kernel⟩, List.mem_of_getElem? (i := 19) (by decide +kernel), List.mem_of_getElem? (i := 931) (by decide +kernel), List.mem_of_getElem? (i := 932) (by decide +kernel)⟩
theorem lw_p27 : lw_okq (⟨"BillWallModel", "here", "()I"⟩, 36) := ⟨⟨by decide +kernel, by decide +kernel⟩, List.mem_of_getElem? (i := 940) (by decide +kernel), List.mem_of_getElem? (i := 1074) (by decide +kernel), List.mem_of_getElem? (i := 1075) (by decide +kernel)⟩
theorem lw_p28 : lw_okq (⟨"BillWallModel", "takeClause", "()V"⟩, 36) := ⟨⟨by decide +kernel, by decide +kernel⟩, List.mem_of_getElem? (i := 940) (by decide +kernel), List.mem_of_getElem? (i := 1078) (by decide +kernel), List.mem_of_getElem? (i := 1079) (by decide +kernel)⟩
theorem lw_p29 : lw_okq (⟨"BillWallModel", "takeWord", "()V"⟩, 36) := ⟨⟨by decide +kernel, by decide +kernel⟩, List.mem_of_getElem? (i := 940) (by decide +kernel), List.mem_of_getElem? (i := 1082) (by decide +kernel), List.mem_of_getElem? (i := 1083) (by decide +kernel)⟩
theorem lw_p30 : lw_okq (⟨"BillWallModel", "isWord", "(IIIIII)Z"⟩, 36) := ⟨⟨by decide +kernel, by decide +kernel⟩, List.mem_of_getElem? (i := 940) (by decide +kernel), List.mem_of_getElem? (i := 1088) (by decide +kernel), List.mem_of_getElem? (i := 1089) (by decide +kernel)⟩
theorem lw_p31 : lw_okq (⟨"BillWallModel", "takeSize", "(I)V"⟩, 36) := ⟨⟨by decide +kernel, by decide +kernel⟩, List.mem_of_getElem? (i := 940) (by decide +kernel), List.mem_of_getElem? (i := 1092) (by decide +kernel), List.mem_of_getElem? (i := 1093) (by decide +kernel)⟩
def lw_privs_2 : List (MethodName × Nat) := [(⟨"BillWall$Lifting", "lookUnder", "(LBillWall$Bills;I)V"⟩, 4), (⟨"BillWall$Lifting", "isLiftable", "(LBillWall$Bills;I)Z"⟩, 4), (⟨"BillWall$Lifting", "seenWithout", "(I)I"⟩, 4), (⟨"BillWall$Bills", "drawOfHundred", "()I"⟩, 12), (⟨"BillWall$Photograph", "relate", "()Z"⟩, 7), (⟨"BillWall$Photograph", "hasOrder", "()Z"⟩, 7), (⟨"BillWall$Photograph", "leastThatCanStand", "(I)I"⟩, 7), (⟨"BillWall$Places", "isBetter", "(I)Z"⟩, 11), (⟨"BillWall$Places", "findSecond", "(IIII)V"⟩, 11), (⟨"BillWall$Places", "takeTurn", "(I)V"⟩, 11), (⟨"BillWall", "imageOf", "(I)LBillWall$Image;"⟩, 10), (⟨"BillWallModel", "here", "()I"⟩, 36), (⟨"BillWallModel", "takeClause", "()V"⟩, 36), (⟨"BillWallModel", "takeWord", "()V"⟩, 36), (⟨"BillWallModel", "isWord", "(IIIIII)Z"⟩, 36), (⟨"BillWallModel", "takeSize", "(I)V"⟩, 36)]
theorem lw_r2 : ∀ q ∈ lw_privs_2, lw_okq q := List.forall_mem_cons.mpr ⟨lw_p16, List.forall_mem_cons.mpr ⟨lw_p17, List.forall_mem_cons.mpr ⟨lw_p18, List.forall_mem_cons.mpr ⟨lw_p19, List.forall_mem_cons.mpr ⟨lw_p20, List.forall_mem_cons.mpr ⟨lw_p21, List.forall_mem_cons.mpr ⟨lw_p22, List.forall_mem_cons.mpr ⟨lw_p23, List.forall_mem_cons.mpr ⟨lw_p24, List.forall_mem_cons.mpr ⟨lw_p25, List.forall_mem_cons.mpr ⟨lw_p26, List.forall_mem_cons.mpr ⟨lw_p27, List.forall_mem_cons.mpr ⟨lw_p28, List.forall_mem_cons.mpr ⟨lw_p29, List.forall_mem_cons.mpr ⟨lw_p30, List.forall_mem_cons.mpr ⟨lw_p31, fun _ h => absurd h List.not_mem_nil⟩⟩⟩⟩⟩⟩⟩⟩⟩⟩⟩⟩⟩⟩⟩⟩
theorem lw_p32 : lw_okq (⟨"BillWallModel", "want", "(ZII)Z"⟩, 36) := ⟨⟨by decide +kernel, by decide +kernel⟩, List.mem_of_getElem? (i := 940) (by decide +kernel), List.mem_of_getElem? (i := 1096) (by decide +kernel), List.mem_of_getElem? (i := 1097) (by decide +kernel)⟩
theorem lw_p33 : lw_okq (⟨"BillWallModel", "once", "(II)Z"⟩, 36) := ⟨⟨by decide +kernel, by decide +kernel⟩, List.mem_of_getElem? (i := 940) (by decide +kernel), List.mem_of_getElem? (i := 1100) (by decide +kernel), List.mem_of_getElem? (i := 1101) (by decide +kernel)⟩
theorem lw_p34 : lw_okq (⟨"BillWallModel", "takeNumber", "(II)I"⟩, 36) := ⟨⟨by decide +kernel, by decide +kernel⟩, List.mem_of_getElem? (i := 940) (by decide +kernel), List.mem_of_getElem? (i := 1107) (by decide +kernel), List.mem_of_getElem? (i := 1108) (by decide +kernel)⟩
theorem lw_p35 : lw_okq (⟨"BillWallModel", "takeBare", "(I)V"⟩, 36) := ⟨⟨by decide +kernel, by decide +kernel⟩, List.mem_of_getElem? (i := 940) (by decide +kernel), List.mem_of_getElem? (i := 1114) (by decide +kernel), List.mem_of_getElem? (i := 1115) (by decide +kernel)⟩
theorem lw_p36 : lw_okq (⟨"BillWallModel", "takePass", "()V"⟩, 36) := ⟨⟨by decide +kernel, by decide +kernel⟩, List.mem_of_getElem? (i := 940) (by decide +kernel), List.mem_of_getElem? (i := 1118) (by decide +kernel), List.mem_of_getElem? (i := 1119) (by decide +kernel)⟩
theorem lw_p37 : lw_okq (⟨"BillWallModel", "takeKind", "(I)V"⟩, 36) := ⟨⟨by decide +kernel, by decide +kernel⟩, List.mem_of_getElem? (i := 940) (by decide +kernel), List.mem_of_getElem? (i := 1122) (by decide +kernel), List.mem_of_getElem? (i := 1123) (by decide +kernel)⟩
theorem lw_p38 : lw_okq (⟨"BillWallModel", "isKind", "(I)Z"⟩, 36) := ⟨⟨by decide +kernel, by decide +kernel⟩, List.mem_of_getElem? (i := 940) (by decide +kernel), List.mem_of_getElem? (i := 1142) (by decide +kernel), List.mem_of_getElem? (i := 1143) (by decide +kernel)⟩
theorem lw_p39 : lw_okq (⟨"BillWallModel", "isCell", "(II)Z"⟩, 36) := ⟨⟨by decide +kernel, by decide +kernel⟩, List.mem_of_getElem? (i := 940) (by decide +kernel), List.mem_of_getElem? (i := 1155) (by decide +kernel), List.mem_of_getElem? (i := 1156) (by decide +kernel)⟩
theorem lw_p40 : lw_okq (⟨"BillWallModel", "isWithin", "(III)Z"⟩, 36) := ⟨⟨by decide +kernel, by decide +kernel⟩, List.mem_of_getElem? (i := 940) (by decide +kernel), List.mem_of_getElem? (i := 1166) (by decide +kernel), List.mem_of_getElem? (i := 1167) (by decide +kernel)⟩
theorem lw_p41 : lw_okq (⟨"BillWallModel", "isClear", "(III)Z"⟩, 36) := ⟨⟨by decide +kernel, by decide +kernel⟩, List.mem_of_getElem? (i := 940) (by decide +kernel), List.mem_of_getElem? (i := 1170) (by decide +kernel), List.mem_of_getElem? (i := 1171) (by decide +kernel)⟩
theorem lw_p42 : lw_okq (⟨"BillWallModel", "reaches", "(IIII)Z"⟩, 36) := ⟨⟨by decide +kernel, by decide +kernel⟩, List.mem_of_getElem? (i := 940) (by decide +kernel), List.mem_of_getElem? (i := 1174) (by decide +kernel), List.mem_of_getElem? (i := 1175) (by decide +kernel)⟩
theorem lw_p43 : lw_okq (⟨"BillWallModel", "lay", "(IIII)I"⟩, 36) := ⟨⟨by decide +kernel, by decide +kernel⟩, List.mem_of_getElem? (i := 940) (by decide +kernel), List.mem_of_getElem? (i := 1179) (by decide +kernel), List.mem_of_getElem? (i := 1180) (by decide +kernel)⟩
theorem lw_p44 : lw_okq (⟨"BillWallModel", "see", "(I)V"⟩, 36) := ⟨⟨by decide +kernel, by decide +kernel⟩, List.mem_of_getElem? (i := 940) (by decide +kernel), List.mem_of_getElem? (i := 1183) (by decide +kernel), List.mem_of_getElem? (i := 1184) (by decide +kernel)⟩
theorem lw_p45 : lw_okq (⟨"BillWallModel", "aboveAt", "(II)I"⟩, 36) := ⟨⟨by decide +kernel, by decide +kernel⟩, List.mem_of_getElem? (i := 940) (by decide +kernel), List.mem_of_getElem? (i := 1187) (by decide +kernel), List.mem_of_getElem? (i := 1188) (by decide +kernel)⟩
theorem lw_p46 : lw_okq (⟨"BillWallModel", "lies", "(III)Z"⟩, 36) := ⟨⟨by decide +kernel, by decide +kernel⟩, List.mem_of_getElem? (i := 940) (by decide +kernel), List.mem_of_getElem? (i := 1191) (by decide +kernel), List.mem_of_getElem? (i := 1192) (by decide +kernel)⟩
theorem lw_p47 : lw_okq (⟨"BillWallModel", "isTorn", "(III)Z"⟩, 36) := ⟨⟨by decide +kernel, by decide +kernel⟩, List.mem_of_getElem? (i := 940) (by decide +kernel), List.mem_of_getElem? (i := 1195) (by decide +kernel), List.mem_of_getElem? (i := 1196) (by decide +kernel)⟩
def lw_privs_3 : List (MethodName × Nat) := [(⟨"BillWallModel", "want", "(ZII)Z"⟩, 36), (⟨"BillWallModel", "once", "(II)Z"⟩, 36), (⟨"BillWallModel", "takeNumber", "(II)I"⟩, 36), (⟨"BillWallModel", "takeBare", "(I)V"⟩, 36), (⟨"BillWallModel", "takePass", "()V"⟩, 36), (⟨"BillWallModel", "takeKind", "(I)V"⟩, 36), (⟨"BillWallModel", "isKind", "(I)Z"⟩, 36), (⟨"BillWallModel", "isCell", "(II)Z"⟩, 36), (⟨"BillWallModel", "isWithin", "(III)Z"⟩, 36), (⟨"BillWallModel", "isClear", "(III)Z"⟩, 36), (⟨"BillWallModel", "reaches", "(IIII)Z"⟩, 36), (⟨"BillWallModel", "lay", "(IIII)I"⟩, 36), (⟨"BillWallModel", "see", "(I)V"⟩, 36), (⟨"BillWallModel", "aboveAt", "(II)I"⟩, 36), (⟨"BillWallModel", "lies", "(III)Z"⟩, 36), (⟨"BillWallModel", "isTorn", "(III)Z"⟩, 36)]
theorem lw_r3 : ∀ q ∈ lw_privs_3, lw_okq q := List.forall_mem_cons.mpr ⟨lw_p32, List.forall_mem_cons.mpr ⟨lw_p33, List.forall_mem_cons.mpr ⟨lw_p34, List.forall_mem_cons.mpr ⟨lw_p35, List.forall_mem_cons.mpr ⟨lw_p36, List.forall_mem_cons.mpr ⟨lw_p37, List.forall_mem_cons.mpr ⟨lw_p38, List.forall_mem_cons.mpr ⟨lw_p39, List.forall_mem_cons.mpr ⟨lw_p40, List.forall_mem_cons.mpr ⟨lw_p41, List.forall_mem_cons.mpr ⟨lw_p42, List.forall_mem_cons.mpr ⟨lw_p43, List.forall_mem_cons.mpr ⟨lw_p44, List.forall_mem_cons.mpr ⟨lw_p45, List.forall_mem_cons.mpr ⟨lw_p46, List.forall_mem_cons.mpr ⟨lw_p47, fun _ h => absurd h List.not_mem_nil⟩⟩⟩⟩⟩⟩⟩⟩⟩⟩⟩⟩⟩⟩⟩⟩
theorem lw_p48 : lw_okq (⟨"BillWallModel", "ownerOf", "(II)I"⟩, 36) := ⟨⟨by decide +kernel, by decide +kernel⟩, List.mem_of_getElem? (i := 940) (by decide +kernel), List.mem_of_getElem? (i := 1199) (by decide +kernel), List.mem_of_getElem? (i := 1200) (by decide +kernel)⟩
theorem lw_p49 : lw_okq (⟨"BillWallModel", "isBill", "(I)Z"⟩, 36) := ⟨⟨by decide +kernel, by decide +kernel⟩, List.mem_of_getElem? (i := 940) (by decide +kernel), List.mem_of_getElem? (i := 1216) (by decide +kernel), List.mem_of_getElem? (i := 1217) (by decide +kernel)⟩
theorem lw_p50 : lw_okq (⟨"BillWallModel", "tornMany", "(I)I"⟩, 36) := ⟨⟨by decide +kernel, by decide +kernel⟩, List.mem_of_getElem? (i := 940) (by decide +kernel), List.mem_of_getElem? (i := 1220) (by decide +kernel), List.mem_of_getElem? (i := 1221) (by decide +kernel)⟩
theorem lw_p51 : lw_okq (⟨"BillWallModel", "isRead", "(II)Z"⟩, 36) := ⟨⟨by decide +kernel, by decide +kernel⟩, List.mem_of_getElem? (i := 940) (by decide +kernel), List.mem_of_getElem? (i := 1224) (by decide +kernel), List.mem_of_getElem? (i := 1225) (by decide +kernel)⟩
theorem lw_p52 : lw_okq (⟨"BillWallModel", "sizeOf", "(I)I"⟩, 36) := ⟨⟨by decide +kernel, by decide +kernel⟩, List.mem_of_getElem? (i := 940) (by decide +kernel), List.mem_of_getElem? (i := 1228) (by decide +kernel), List.mem_of_getElem? (i := 1229) (by decide +kernel)⟩
theorem lw_p53 : lw_okq (⟨"BillWallModel", "overOf", "(I)I"⟩, 36) := ⟨⟨by decide +kernel, by decide +kernel⟩, List.mem_of_getElem? (i := 940) (by decide +kernel), List.mem_of_getElem? (i := 1236) (by decide +kernel), List.mem_of_getElem? (i := 1237) (by decide +kernel)⟩
theorem lw_p54 : lw_okq (⟨"BillWallModel", "freeOf", "(I)I"⟩, 36) := ⟨⟨by decide +kernel, by decide +kernel⟩, List.mem_of_getElem? (i := 940) (by decide +kernel), List.mem_of_getElem? (i := 1244) (by decide +kernel), List.mem_of_getElem? (i := 1245) (by decide +kernel)⟩
theorem lw_p55 : lw_okq (⟨"BillWallModel", "isWhole", "(I)Z"⟩, 36) := ⟨⟨by decide +kernel, by decide +kernel⟩, List.mem_of_getElem? (i := 940) (by decide +kernel), List.mem_of_getElem? (i := 1255) (by decide +kernel), List.mem_of_getElem? (i := 1256) (by decide +kernel)⟩
theorem lw_p56 : lw_okq (⟨"BillWallModel", "isReadWithout", "(II)Z"⟩, 36) := ⟨⟨by decide +kernel, by decide +kernel⟩, List.mem_of_getElem? (i := 940) (by decide +kernel), List.mem_of_getElem? (i := 1259) (by decide +kernel), List.mem_of_getElem? (i := 1260) (by decide +kernel)⟩
theorem lw_p57 : lw_okq (⟨"BillWallModel", "copy", "(II)V"⟩, 36) := ⟨⟨by decide +kernel, by decide +kernel⟩, List.mem_of_getElem? (i := 940) (by decide +kernel), List.mem_of_getElem? (i := 1263) (by decide +kernel), List.mem_of_getElem? (i := 1264) (by decide +kernel)⟩
theorem lw_p58 : lw_okq (⟨"BillWallModel", "tearAt", "(I)I"⟩, 36) := ⟨⟨by decide +kernel, by decide +kernel⟩, List.mem_of_getElem? (i := 940) (by decide +kernel), List.mem_of_getElem? (i := 1275) (by decide +kernel), List.mem_of_getElem? (i := 1276) (by decide +kernel)⟩
theorem lw_p59 : lw_okq (⟨"BillWallModel", "draw", "(I)I"⟩, 36) := ⟨⟨by decide +kernel, by decide +kernel⟩, List.mem_of_getElem? (i := 940) (by decide +kernel), List.mem_of_getElem? (i := 1284) (by decide +kernel), List.mem_of_getElem? (i := 1285) (by decide +kernel)⟩
theorem lw_p60 : lw_okq (⟨"BillWallModel", "worthOf", "(II)I"⟩, 36) := ⟨⟨by decide +kernel, by decide +kernel⟩, List.mem_of_getElem? (i := 940) (by decide +kernel), List.mem_of_getElem? (i := 1297) (by decide +kernel), List.mem_of_getElem? (i := 1298) (by decide +kernel)⟩
theorem lw_p61 : lw_okq (⟨"BillWallModel", "onMany", "(I)I"⟩, 36) := ⟨⟨by decide +kernel, by decide +kernel⟩, List.mem_of_getElem? (i := 940) (by decide +kernel), List.mem_of_getElem? (i := 1301) (by decide +kernel), List.mem_of_getElem? (i := 1302) (by decide +kernel)⟩
theorem lw_p62 : lw_okq (⟨"BillWallModel", "ordersOf", "()I"⟩, 36) := ⟨⟨by decide +kernel, by decide +kernel⟩, List.mem_of_getElem? (i := 940) (by decide +kernel), List.mem_of_getElem? (i := 1318) (by decide +kernel), List.mem_of_getElem? (i := 1319) (by decide +kernel)⟩
theorem lw_p63 : lw_okq (⟨"BillWallModel", "findBelow", "()Z"⟩, 36) := ⟨⟨by decide +kernel, by decide +kernel⟩, List.mem_of_getElem? (i := 940) (by decide +kernel), List.mem_of_getElem? (i := 1322) (by decide +kernel), List.mem_of_getElem? (i := 1323) (by decide +kernel)⟩
def lw_privs_4 : List (MethodName × Nat) := [(⟨"BillWallModel", "ownerOf", "(II)I"⟩, 36), (⟨"BillWallModel", "isBill", "(I)Z"⟩, 36), (⟨"BillWallModel", "tornMany", "(I)I"⟩, 36), (⟨"BillWallModel", "isRead", "(II)Z"⟩, 36), (⟨"BillWallModel", "sizeOf", "(I)I"⟩, 36), (⟨"BillWallModel", "overOf", "(I)I"⟩, 36), (⟨"BillWallModel", "freeOf", "(I)I"⟩, 36), (⟨"BillWallModel", "isWhole", "(I)Z"⟩, 36), (⟨"BillWallModel", "isReadWithout", "(II)Z"⟩, 36), (⟨"BillWallModel", "copy", "(II)V"⟩, 36), (⟨"BillWallModel", "tearAt", "(I)I"⟩, 36), (⟨"BillWallModel", "draw", "(I)I"⟩, 36), (⟨"BillWallModel", "worthOf", "(II)I"⟩, 36), (⟨"BillWallModel", "onMany", "(I)I"⟩, 36), (⟨"BillWallModel", "ordersOf", "()I"⟩, 36), (⟨"BillWallModel", "findBelow", "()Z"⟩, 36)]
theorem lw_r4 : ∀ q ∈ lw_privs_4, lw_okq q := List.forall_mem_cons.mpr ⟨lw_p48, List.forall_mem_cons.mpr ⟨lw_p49, List.forall_mem_cons.mpr ⟨lw_p50, List.forall_mem_cons.mpr ⟨lw_p51, List.forall_mem_cons.mpr ⟨lw_p52, List.forall_mem_cons.mpr ⟨lw_p53, List.forall_mem_cons.mpr ⟨lw_p54, List.forall_mem_cons.mpr ⟨lw_p55, List.forall_mem_cons.mpr ⟨lw_p56, List.forall_mem_cons.mpr ⟨lw_p57, List.forall_mem_cons.mpr ⟨lw_p58, List.forall_mem_cons.mpr ⟨lw_p59, List.forall_mem_cons.mpr ⟨lw_p60, List.forall_mem_cons.mpr ⟨lw_p61, List.forall_mem_cons.mpr ⟨lw_p62, List.forall_mem_cons.mpr ⟨lw_p63, fun _ h => absurd h List.not_mem_nil⟩⟩⟩⟩⟩⟩⟩⟩⟩⟩⟩⟩⟩⟩⟩⟩
theorem lw_p64 : lw_okq (⟨"BillWallModel", "hasCell", "(II)Z"⟩, 36) := ⟨⟨by decide +kernel, by decide +kernel⟩, List.mem_of_getElem? (i := 940) (by decide +kernel), List.mem_of_getElem? (i := 1326) (by decide +kernel), List.mem_of_getElem? (i := 1327) (by decide +kernel)⟩
theorem lw_p65 : lw_okq (⟨"BillWallModel", "findBest", "(II)V"⟩, 36) := ⟨⟨by decide +kernel, by decide +kernel⟩, List.mem_of_getElem? (i := 940) (by decide +kernel), List.mem_of_getElem? (i := 1343) (by decide +kernel), List.mem_of_getElem? (i := 1344) (by decide +kernel)⟩
theorem lw_p66 : lw_okq (⟨"BillWallModel", "isPlace", "(II)Z"⟩, 36) := ⟨⟨by decide +kernel, by decide +kernel⟩, List.mem_of_getElem? (i := 940) (by decide +kernel), List.mem_of_getElem? (i := 1347) (by decide +kernel), List.mem_of_getElem? (i := 1348) (by decide +kernel)⟩
theorem lw_p67 : lw_okq (⟨"BillWallModel", "undo", "(II)V"⟩, 36) := ⟨⟨by decide +kernel, by decide +kernel⟩, List.mem_of_getElem? (i := 940) (by decide +kernel), List.mem_of_getElem? (i := 1351) (by decide +kernel), List.mem_of_getElem? (i := 1352) (by decide +kernel)⟩
theorem lw_p68 : lw_okq (⟨"BillWallModel", "takeTurn", "(I)V"⟩, 36) := ⟨⟨by decide +kernel, by decide +kernel⟩, List.mem_of_getElem? (i := 940) (by decide +kernel), List.mem_of_getElem? (i := 1365) (by decide +kernel), List.mem_of_getElem? (i := 1366) (by decide +kernel)⟩
def lw_privs_5 : List (MethodName × Nat) := [(⟨"BillWallModel", "hasCell", "(II)Z"⟩, 36), (⟨"BillWallModel", "findBest", "(II)V"⟩, 36), (⟨"BillWallModel", "isPlace", "(II)Z"⟩, 36), (⟨"BillWallModel", "undo", "(II)V"⟩, 36), (⟨"BillWallModel", "takeTurn", "(I)V"⟩, 36)]
theorem lw_r5 : ∀ q ∈ lw_privs_5, lw_okq q := List.forall_mem_cons.mpr ⟨lw_p64, List.forall_mem_cons.mpr ⟨lw_p65, List.forall_mem_cons.mpr ⟨lw_p66, List.forall_mem_cons.mpr ⟨lw_p67, List.forall_mem_cons.mpr ⟨lw_p68, fun _ h => absurd h List.not_mem_nil⟩⟩⟩⟩⟩
def lw_privs : List (MethodName × Nat) := lw_privs_1 ++ (lw_privs_2 ++ (lw_privs_3 ++ (lw_privs_4 ++ (lw_privs_5))))
def lw_tbl : List Cond := k2_sels lw_privs ++ tables_1
theorem lw_privs_ok : ∀ q ∈ lw_privs, lw_okq q := by
  show ∀ q ∈ lw_privs_1 ++ (lw_privs_2 ++ (lw_privs_3 ++ (lw_privs_4 ++ (lw_privs_5)))), lw_okq q
  exact List.forall_mem_append.mpr ⟨lw_r1, List.forall_mem_append.mpr ⟨lw_r2, List.forall_mem_append.mpr ⟨lw_r3, List.forall_mem_append.mpr ⟨lw_r4, lw_r5⟩⟩⟩⟩
-- ===== end of PART A; then your names; then what follows =====
-- ===== names: the classes, their fields in the order of the slots =====
def RX0 : String := "BillWall$Bills"
def TX0 : u_T := fun k => match k with
  | 0 => ("BillWall$Bills", "plan", "LBillWall$Plan;", true)
  | 1 => ("BillWall$Bills", "count", "I", false)
  | 2 => ("BillWall$Bills", "today", "I", false)
  | 3 => ("BillWall$Bills", "draws", "I", false)
  | 4 => ("BillWall$Bills", "kinds", "[I", true)
  | 5 => ("BillWall$Bills", "columns", "[I", true)
  | 6 => ("BillWall$Bills", "rows", "[I", true)
  | 7 => ("BillWall$Bills", "pastedOn", "[I", true)
  | 8 => ("BillWall$Bills", "fines", "[I", true)
  | 9 => ("BillWall$Bills", "on", "I", false)
  | 10 => ("BillWall$Bills", "whole", "[I", true)
  | _ => ("BillWall$Bills", "torn", "[I", true)
def tyX0 : Nat → FieldType := fun k => match k with
  | 0 => .object "BillWall$Plan"
  | 1 => .int
  | 2 => .int
  | 3 => .int
  | 4 => .array .int
  | 5 => .array .int
  | 6 => .array .int
  | 7 => .array .int
  | 8 => .array .int
  | 9 => .int
  | 10 => .array .int
  | _ => .array .int
abbrev wsX00 : List Cond := u_ws RX0 TX0 12
theorem nmX0 : ∀ a, a < 12 → ∀ b, b < 12 → a ≠ b → (TX0 a).2.1 ≠ (TX0 b).2.1 := by decide +kernel
theorem tyX0_ok : ∀ k, k < 12 → parseFieldDescriptor (TX0 k).2.2.1 = some (tyX0 k) := by decide +kernel
def RX1 : String := "BillWall$Image"
def TX1 : u_T := fun k => match k with
  | 0 => ("BillWall$Image", "bills", "LBillWall$Bills;", true)
  | _ => ("BillWall$Image", "kept", "Z", false)
def tyX1 : Nat → FieldType := fun k => match k with
  | 0 => .object "BillWall$Bills"
  | _ => .boolean
abbrev wsX10 : List Cond := u_ws RX1 TX1 2
theorem nmX1 : ∀ a, a < 2 → ∀ b, b < 2 → a ≠ b → (TX1 a).2.1 ≠ (TX1 b).2.1 := by decide +kernel
theorem tyX1_ok : ∀ k, k < 2 → parseFieldDescriptor (TX1 k).2.2.1 = some (tyX1 k) := by decide +kernel
def RX2 : String := "BillWall$Lifting"
def TX2 : u_T := fun k => match k with
  | 0 => ("BillWall$Lifting", "plan", "LBillWall$Plan;", true)
  | 1 => ("BillWall$Lifting", "covers", "[I", true)
  | 2 => ("BillWall$Lifting", "hiding", "[I", true)
  | _ => ("BillWall$Lifting", "cells", "I", false)
def tyX2 : Nat → FieldType := fun k => match k with
  | 0 => .object "BillWall$Plan"
  | 1 => .array .int
  | 2 => .array .int
  | _ => .int
abbrev wsX20 : List Cond := u_ws RX2 TX2 4
theorem nmX2 : ∀ a, a < 4 → ∀ b, b < 4 → a ≠ b → (TX2 a).2.1 ≠ (TX2 b).2.1 := by decide +kernel
theorem tyX2_ok : ∀ k, k < 4 → parseFieldDescriptor (TX2 k).2.2.1 = some (tyX2 k) := by decide +kernel
def RX3 : String := "BillWall$Photograph"
def TX3 : u_T := fun k => match k with
  | 0 => ("BillWall$Photograph", "plan", "LBillWall$Plan;", true)
  | 1 => ("BillWall$Photograph", "count", "I", false)
  | 2 => ("BillWall$Photograph", "here", "[I", true)
  | 3 => ("BillWall$Photograph", "tops", "[I", true)
  | 4 => ("BillWall$Photograph", "below", "[I", true)
  | 5 => ("BillWall$Photograph", "first", "[I", true)
  | _ => ("BillWall$Photograph", "ways", "[I", true)
def tyX3 : Nat → FieldType := fun k => match k with
  | 0 => .object "BillWall$Plan"
  | 1 => .int
  | 2 => .array .int
  | 3 => .array .int
  | 4 => .array .int
  | 5 => .array .int
  | _ => .array .int
abbrev wsX30 : List Cond := u_ws RX3 TX3 7
theorem nmX3 : ∀ a, a < 7 → ∀ b, b < 7 → a ≠ b → (TX3 a).2.1 ≠ (TX3 b).2.1 := by decide +kernel
theorem tyX3_ok : ∀ k, k < 7 → parseFieldDescriptor (TX3 k).2.2.1 = some (tyX3 k) := by decide +kernel
def RX4 : String := "BillWall$Places"
def TX4 : u_T := fun k => match k with
  | 0 => ("BillWall$Places", "plan", "LBillWall$Plan;", true)
  | 1 => ("BillWall$Places", "trial", "LBillWall$Bills;", true)
  | 2 => ("BillWall$Places", "now", "LBillWall$Sight;", true)
  | 3 => ("BillWall$Places", "then", "LBillWall$Sight;", true)
  | 4 => ("BillWall$Places", "found", "Z", false)
  | 5 => ("BillWall$Places", "column", "I", false)
  | 6 => ("BillWall$Places", "row", "I", false)
  | 7 => ("BillWall$Places", "secondColumn", "I", false)
  | 8 => ("BillWall$Places", "secondRow", "I", false)
  | 9 => ("BillWall$Places", "gain", "I", false)
  | _ => ("BillWall$Places", "pasted", "I", false)
def tyX4 : Nat → FieldType := fun k => match k with
  | 0 => .object "BillWall$Plan"
  | 1 => .object "BillWall$Bills"
  | 2 => .object "BillWall$Sight"
  | 3 => .object "BillWall$Sight"
  | 4 => .boolean
  | 5 => .int
  | 6 => .int
  | 7 => .int
  | 8 => .int
  | 9 => .int
  | _ => .int
abbrev wsX40 : List Cond := u_ws RX4 TX4 11
theorem nmX4 : ∀ a, a < 11 → ∀ b, b < 11 → a ≠ b → (TX4 a).2.1 ≠ (TX4 b).2.1 := by decide +kernel
theorem tyX4_ok : ∀ k, k < 11 → parseFieldDescriptor (TX4 k).2.2.1 = some (tyX4 k) := by decide +kernel
def RX5 : String := "BillWall$Plan"
def TX5 : u_T := fun k => match k with
  | 0 => ("BillWall$Plan", "columns", "I", false)
  | 1 => ("BillWall$Plan", "rows", "I", false)
  | 2 => ("BillWall$Plan", "guard", "I", false)
  | 3 => ("BillWall$Plan", "fine", "I", false)
  | 4 => ("BillWall$Plan", "percent", "I", false)
  | 5 => ("BillWall$Plan", "strips", "I", false)
  | 6 => ("BillWall$Plan", "kinds", "I", false)
  | 7 => ("BillWall$Plan", "passers", "[I", true)
  | 8 => ("BillWall$Plan", "barred", "[I", true)
  | 9 => ("BillWall$Plan", "owners", "[I", true)
  | 10 => ("BillWall$Plan", "widths", "[I", true)
  | _ => ("BillWall$Plan", "heights", "[I", true)
def tyX5 : Nat → FieldType := fun k => match k with
  | 0 => .int
  | 1 => .int
  | 2 => .int
  | 3 => .int
  | 4 => .int
  | 5 => .int
  | 6 => .int
  | 7 => .array .int
  | 8 => .array .int
  | 9 => .array .int
  | 10 => .array .int
  | _ => .array .int
abbrev wsX50 : List Cond := u_ws RX5 TX5 12
theorem nmX5 : ∀ a, a < 12 → ∀ b, b < 12 → a ≠ b → (TX5 a).2.1 ≠ (TX5 b).2.1 := by decide +kernel
theorem tyX5_ok : ∀ k, k < 12 → parseFieldDescriptor (TX5 k).2.2.1 = some (tyX5 k) := by decide +kernel
def RX6 : String := "BillWall$Reader"
def TX6 : u_T := fun k => match k with
  | 0 => ("BillWall$Reader", "text", "[C", true)
  | 1 => ("BillWall$Reader", "length", "I", false)
  | 2 => ("BillWall$Reader", "place", "I", false)
  | 3 => ("BillWall$Reader", "numberPlace", "I", false)
  | 4 => ("BillWall$Reader", "faultNumber", "I", false)
  | 5 => ("BillWall$Reader", "faultPlace", "I", false)
  | 6 => ("BillWall$Reader", "toldClauses", "I", false)
  | _ => ("BillWall$Reader", "toldColumns", "I", false)
def tyX6 : Nat → FieldType := fun k => match k with
  | 0 => .array .char
  | 1 => .int
  | 2 => .int
  | 3 => .int
  | 4 => .int
  | 5 => .int
  | 6 => .int
  | _ => .int
abbrev wsX60 : List Cond := u_ws RX6 TX6 8
theorem nmX6 : ∀ a, a < 8 → ∀ b, b < 8 → a ≠ b → (TX6 a).2.1 ≠ (TX6 b).2.1 := by decide +kernel
theorem tyX6_ok : ∀ k, k < 8 → parseFieldDescriptor (TX6 k).2.2.1 = some (tyX6 k) := by decide +kernel
def RX7 : String := "BillWall$Sight"
def TX7 : u_T := fun k => match k with
  | 0 => ("BillWall$Sight", "plan", "LBillWall$Plan;", true)
  | 1 => ("BillWall$Sight", "tops", "[I", true)
  | 2 => ("BillWall$Sight", "seen", "[I", true)
  | 3 => ("BillWall$Sight", "passers", "[I", true)
  | 4 => ("BillWall$Sight", "lostSeen", "[I", true)
  | 5 => ("BillWall$Sight", "lostPassers", "[I", true)
  | 6 => ("BillWall$Sight", "gain", "I", false)
  | _ => ("BillWall$Sight", "due", "I", false)
def tyX7 : Nat → FieldType := fun k => match k with
  | 0 => .object "BillWall$Plan"
  | 1 => .array .int
  | 2 => .array .int
  | 3 => .array .int
  | 4 => .array .int
  | 5 => .array .int
  | 6 => .int
  | _ => .int
abbrev wsX70 : List Cond := u_ws RX7 TX7 8
theorem nmX7 : ∀ a, a < 8 → ∀ b, b < 8 → a ≠ b → (TX7 a).2.1 ≠ (TX7 b).2.1 := by decide +kernel
theorem tyX7_ok : ∀ k, k < 8 → parseFieldDescriptor (TX7 k).2.2.1 = some (tyX7 k) := by decide +kernel
def RX8 : String := "BillWall"
def TX8 : u_T := fun k => match k with
  | 0 => ("BillWall", "plan", "LBillWall$Plan;", true)
  | 1 => ("BillWall", "draft", "LBillWall$Plan;", true)
  | 2 => ("BillWall", "reader", "LBillWall$Reader;", true)
  | 3 => ("BillWall", "bills", "LBillWall$Bills;", true)
  | 4 => ("BillWall", "firstImage", "LBillWall$Image;", true)
  | 5 => ("BillWall", "secondImage", "LBillWall$Image;", true)
  | 6 => ("BillWall", "sight", "LBillWall$Sight;", true)
  | 7 => ("BillWall", "lifting", "LBillWall$Lifting;", true)
  | 8 => ("BillWall", "places", "LBillWall$Places;", true)
  | _ => ("BillWall", "photograph", "LBillWall$Photograph;", true)
def tyX8 : Nat → FieldType := fun k => match k with
  | 0 => .object "BillWall$Plan"
  | 1 => .object "BillWall$Plan"
  | 2 => .object "BillWall$Reader"
  | 3 => .object "BillWall$Bills"
  | 4 => .object "BillWall$Image"
  | 5 => .object "BillWall$Image"
  | 6 => .object "BillWall$Sight"
  | 7 => .object "BillWall$Lifting"
  | 8 => .object "BillWall$Places"
  | _ => .object "BillWall$Photograph"
abbrev wsX80 : List Cond := u_ws RX8 TX8 10
theorem nmX8 : ∀ a, a < 10 → ∀ b, b < 10 → a ≠ b → (TX8 a).2.1 ≠ (TX8 b).2.1 := by decide +kernel
theorem tyX8_ok : ∀ k, k < 10 → parseFieldDescriptor (TX8 k).2.2.1 = some (tyX8 k) := by decide +kernel
def RX9 : String := "BillWallModel"
def TX9 : u_T := fun k => match k with
  | 0 => ("BillWallModel", "w", "[I", true)
  | 1 => ("BillWallModel", "isKept", "[Z", true)
  | 2 => ("BillWallModel", "wall", "[I", true)
  | 3 => ("BillWallModel", "pass", "[I", true)
  | 4 => ("BillWallModel", "isBare", "[Z", true)
  | 5 => ("BillWallModel", "strips", "I", false)
  | 6 => ("BillWallModel", "owners", "[I", true)
  | 7 => ("BillWallModel", "wides", "[I", true)
  | 8 => ("BillWallModel", "highs", "[I", true)
  | 9 => ("BillWallModel", "kinds", "I", false)
  | 10 => ("BillWallModel", "newStrips", "I", false)
  | 11 => ("BillWallModel", "newKinds", "I", false)
  | 12 => ("BillWallModel", "text", "[I", true)
  | 13 => ("BillWallModel", "textSize", "I", false)
  | 14 => ("BillWallModel", "at", "I", false)
  | 15 => ("BillWallModel", "first", "I", false)
  | 16 => ("BillWallModel", "length", "I", false)
  | 17 => ("BillWallModel", "faultOf", "I", false)
  | 18 => ("BillWallModel", "fault", "I", false)
  | 19 => ("BillWallModel", "toldKinds", "I", false)
  | 20 => ("BillWallModel", "toldColumns", "I", false)
  | 21 => ("BillWallModel", "isBound", "Z", false)
  | 22 => ("BillWallModel", "seen", "[I", true)
  | 23 => ("BillWallModel", "met", "[I", true)
  | 24 => ("BillWallModel", "before", "[I", true)
  | 25 => ("BillWallModel", "overs", "[I", true)
  | 26 => ("BillWallModel", "shown", "I", false)
  | 27 => ("BillWallModel", "showKind", "[I", true)
  | 28 => ("BillWallModel", "showX", "[I", true)
  | 29 => ("BillWallModel", "showY", "[I", true)
  | 30 => ("BillWallModel", "looked", "[I", true)
  | 31 => ("BillWallModel", "below", "[I", true)
  | 32 => ("BillWallModel", "ways", "[I", true)
  | 33 => ("BillWallModel", "bestCell", "I", false)
  | 34 => ("BillWallModel", "bestGain", "I", false)
  | _ => ("BillWallModel", "pasted", "I", false)
def tyX9 : Nat → FieldType := fun k => match k with
  | 0 => .array .int
  | 1 => .array .boolean
  | 2 => .array .int
  | 3 => .array .int
  | 4 => .array .boolean
  | 5 => .int
  | 6 => .array .int
  | 7 => .array .int
  | 8 => .array .int
  | 9 => .int
  | 10 => .int
  | 11 => .int
  | 12 => .array .int
  | 13 => .int
  | 14 => .int
  | 15 => .int
  | 16 => .int
  | 17 => .int
  | 18 => .int
  | 19 => .int
  | 20 => .int
  | 21 => .boolean
  | 22 => .array .int
  | 23 => .array .int
  | 24 => .array .int
  | 25 => .array .int
  | 26 => .int
  | 27 => .array .int
  | 28 => .array .int
  | 29 => .array .int
  | 30 => .array .int
  | 31 => .array .int
  | 32 => .array .int
  | 33 => .int
  | 34 => .int
  | _ => .int
abbrev wsX90 : List Cond := u_ws RX9 TX9 36
theorem nmX9 : ∀ a, a < 36 → ∀ b, b < 36 → a ≠ b → (TX9 a).2.1 ≠ (TX9 b).2.1 := by decide +kernel
theorem tyX9_ok : ∀ k, k < 36 → parseFieldDescriptor (TX9 k).2.2.1 = some (tyX9 k) := by decide +kernel
abbrev a_cl : List vw_C := [(RX0, TX0, 12), (RX1, TX1, 2), (RX2, TX2, 4), (RX3, TX3, 7), (RX4, TX4, 11), (RX5, TX5, 12), (RX6, TX6, 8), (RX7, TX7, 8), (RX8, TX8, 10), (RX9, TX9, 36)]
def a_Cn (cn : Nat) : String := match cn with
  | 0 => "BillWall$Bills"
  | 1 => "BillWall$Image"
  | 2 => "BillWall$Lifting"
  | 3 => "BillWall$Photograph"
  | 4 => "BillWall$Places"
  | 5 => "BillWall$Plan"
  | 6 => "BillWall$Reader"
  | 7 => "BillWall$Sight"
  | 8 => "BillWall"
  | 9 => "BillWallModel"
  | 10 => "BillWallLaw"
  | 11 => "java/lang/Integer"
  | 12 => "java/util/Arrays"
  | _ => ""
def a_ty (ci : Nat) : Nat → FieldType := match ci with
  | 0 => tyX0
  | 1 => tyX1
  | 2 => tyX2
  | 3 => tyX3
  | 4 => tyX4
  | 5 => tyX5
  | 6 => tyX6
  | 7 => tyX7
  | 8 => tyX8
  | _ => tyX9
