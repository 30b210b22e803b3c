section
-- ===== PART A: goes FIRST, ahead of the names: the tables' words, and 'selects' of the private methods out of them =====
/-- a private method of a class that the tables say can be made, by its rows of tables_1 -/
def lw_okq (q : MethodName × Nat) : Prop := (q.1.cls ≠ "java/lang/invoke/MethodHandle" ∧ q.1.cls ≠ "java/lang/invoke/VarHandle") ∧ Cond.instantiable q.1.cls q.2 ∈ tables_1 ∧ Cond.privateMethod q.1 ∈ tables_1 ∧ Cond.instanceMethod q.1 ∈ tables_1
theorem lw_p0 : lw_okq (⟨"BillWall$Reader", "skipBlanks", "()V"⟩, 8) := ⟨⟨by decide +kernel, by decide +kernel⟩, List.mem_of_getElem? (i := 118) (by decide +kernel), List.mem_of_getElem? (i := 418) (by decide +kernel), List.mem_of_getElem? (i := 419) (by decide +kernel)⟩
theorem lw_p1 : lw_okq (⟨"BillWall$Reader", "isFaultless", "()Z"⟩, 8) := ⟨⟨by decide +kernel, by decide +kernel⟩, List.mem_of_getElem? (i := 118) (by decide +kernel), List.mem_of_getElem? (i := 422) (by decide +kernel), List.mem_of_getElem? (i := 423) (by decide +kernel)⟩
theorem lw_p2 : lw_okq (⟨"BillWall$Reader", "readClause", "(LBillWall$Plan;)V"⟩, 8) := ⟨⟨by decide +kernel, by decide +kernel⟩, List.mem_of_getElem? (i := 118) (by decide +kernel), List.mem_of_getElem? (i := 426) (by decide +kernel), List.mem_of_getElem? (i := 427) (by decide +kernel)⟩
theorem lw_p3 : lw_okq (⟨"BillWall$Reader", "readWord", "()I"⟩, 8) := ⟨⟨by decide +kernel, by decide +kernel⟩, List.mem_of_getElem? (i := 118) (by decide +kernel), List.mem_of_getElem? (i := 430) (by decide +kernel), List.mem_of_getElem? (i := 431) (by decide +kernel)⟩
theorem lw_p4 : lw_okq (⟨"BillWall$Reader", "spells", "(ILjava/lang/String;)Z"⟩, 8) := ⟨⟨by decide +kernel, by decide +kernel⟩, List.mem_of_getElem? (i := 118) (by decide +kernel), List.mem_of_getElem? (i := 447) (by decide +kernel), List.mem_of_getElem? (i := 448) (by decide +kernel)⟩
theorem lw_p5 : lw_okq (⟨"BillWall$Reader", "isSizeTooLate", "()Z"⟩, 8) := ⟨⟨by decide +kernel, by decide +kernel⟩, List.mem_of_getElem? (i := 118) (by decide +kernel), List.mem_of_getElem? (i := 499) (by decide +kernel), List.mem_of_getElem? (i := 500) (by decide +kernel)⟩
theorem lw_p6 : lw_okq (⟨"BillWall$Reader", "fail", "(II)V"⟩, 8) := ⟨⟨by decide +kernel, by decide +kernel⟩, List.mem_of_getElem? (i := 118) (by decide +kernel), List.mem_of_getElem? (i := 506) (by decide +kernel), List.mem_of_getElem? (i := 507) (by decide +kernel)⟩
theorem lw_p7 : lw_okq (⟨"BillWall$Reader", "isTold", "(LBillWall$Plan;I)Z"⟩, 8) := ⟨⟨by decide +kernel, by decide +kernel⟩, List.mem_of_getElem? (i := 118) (by decide +kernel), List.mem_of_getElem? (i := 510) (by decide +kernel), List.mem_of_getElem? (i := 511) (by decide +kernel)⟩
theorem lw_p8 : lw_okq (⟨"BillWall$Reader", "readNumbers", "(LBillWall$Plan;I)V"⟩, 8) := ⟨⟨by decide +kernel, by decide +kernel⟩, List.mem_of_getElem? (i := 118) (by decide +kernel), List.mem_of_getElem? (i := 514) (by decide +kernel), List.mem_of_getElem? (i := 515) (by decide +kernel)⟩
theorem lw_p9 : lw_okq (⟨"BillWall$Reader", "readNumber", "(II)I"⟩, 8) := ⟨⟨by decide +kernel, by decide +kernel⟩, List.mem_of_getElem? (i := 118) (by decide +kernel), List.mem_of_getElem? (i := 518) (by decide +kernel), List.mem_of_getElem? (i := 519) (by decide +kernel)⟩
theorem lw_p10 : lw_okq (⟨"BillWall$Reader", "readStrip", "(LBillWall$Plan;)V"⟩, 8) := ⟨⟨by decide +kernel, by decide +kernel⟩, List.mem_of_getElem? (i := 118) (by decide +kernel), List.mem_of_getElem? (i := 525) (by decide +kernel), List.mem_of_getElem? (i := 526) (by decide +kernel)⟩
theorem lw_p11 : lw_okq (⟨"BillWall$Reader", "readPassers", "(LBillWall$Plan;)V"⟩, 8) := ⟨⟨by decide +kernel, by decide +kernel⟩, List.mem_of_getElem? (i := 118) (by decide +kernel), List.mem_of_getElem? (i := 533) (by decide +kernel), List.mem_of_getElem? (i := 534) (by decide +kernel)⟩
theorem lw_p12 : lw_okq (⟨"BillWall$Reader", "readKind", "(LBillWall$Plan;)V"⟩, 8) := ⟨⟨by decide +kernel, by decide +kernel⟩, List.mem_of_getElem? (i := 118) (by decide +kernel), List.mem_of_getElem? (i := 537) (by decide +kernel), List.mem_of_getElem? (i := 538) (by decide +kernel)⟩
theorem lw_p13 : lw_okq (⟨"BillWall$Reader", "readEnd", "()V"⟩, 8) := ⟨⟨by decide +kernel, by decide +kernel⟩, List.mem_of_getElem? (i := 118) (by decide +kernel), List.mem_of_getElem? (i := 545) (by decide +kernel), List.mem_of_getElem? (i := 546) (by decide +kernel)⟩
theorem lw_p14 : lw_okq (⟨"BillWall$Sight", "hide", "(III)I"⟩, 8) := ⟨⟨by decide +kernel, by decide +kernel⟩, List.mem_of_getElem? (i := 228) (by decide +kernel), List.mem_of_getElem? (i := 630) (by decide +kernel), List.mem_of_getElem? (i := 631) (by decide +kernel)⟩
theorem lw_p15 : lw_okq (⟨"BillWall$Sight", "weighLoss", "(LBillWall$Bills;II)V"⟩, 8) := ⟨⟨by decide +kernel, by decide +kernel⟩, List.mem_of_getElem? (i := 228) (by decide +kernel), List.mem_of_getElem? (i := 639) (by decide +kernel), List.mem_of_getElem? (i := 640) (by decide +kernel)⟩
def lw_privs_1 : List (MethodName × Nat) := [(⟨"BillWall$Reader", "skipBlanks", "()V"⟩, 8), (⟨"BillWall$Reader", "isFaultless", "()Z"⟩, 8), (⟨"BillWall$Reader", "readClause", "(LBillWall$Plan;)V"⟩, 8), (⟨"BillWall$Reader", "readWord", "()I"⟩, 8), (⟨"BillWall$Reader", "spells", "(ILjava/lang/String;)Z"⟩, 8), (⟨"BillWall$Reader", "isSizeTooLate", "()Z"⟩, 8), (⟨"BillWall$Reader", "fail", "(II)V"⟩, 8), (⟨"BillWall$Reader", "isTold", "(LBillWall$Plan;I)Z"⟩, 8), (⟨"BillWall$Reader", "readNumbers", "(LBillWall$Plan;I)V"⟩, 8), (⟨"BillWall$Reader", "readNumber", "(II)I"⟩, 8), (⟨"BillWall$Reader", "readStrip", "(LBillWall$Plan;)V"⟩, 8), (⟨"BillWall$Reader", "readPassers", "(LBillWall$Plan;)V"⟩, 8), (⟨"BillWall$Reader", "readKind", "(LBillWall$Plan;)V"⟩, 8), (⟨"BillWall$Reader", "readEnd", "()V"⟩, 8), (⟨"BillWall$Sight", "hide", "(III)I"⟩, 8), (⟨"BillWall$Sight", "weighLoss", "(LBillWall$Bills;II)V"⟩, 8)]
theorem lw_r1 : ∀ q ∈ lw_privs_1, lw_okq q := List.forall_mem_cons.mpr ⟨lw_p0, List.forall_mem_cons.mpr ⟨lw_p1, List.forall_mem_cons.mpr ⟨lw_p2, List.forall_mem_cons.mpr ⟨lw_p3, List.forall_mem_cons.mpr ⟨lw_p4, List.forall_mem_cons.mpr ⟨lw_p5, List.forall_mem_cons.mpr ⟨lw_p6, List.forall_mem_cons.mpr ⟨lw_p7, List.forall_mem_cons.mpr ⟨lw_p8, List.forall_mem_cons.mpr ⟨lw_p9, List.forall_mem_cons.mpr ⟨lw_p10, List.forall_mem_cons.mpr ⟨lw_p11, List.forall_mem_cons.mpr ⟨lw_p12, List.forall_mem_cons.mpr ⟨lw_p13, List.forall_mem_cons.mpr ⟨lw_p14, List.forall_mem_cons.mpr ⟨lw_p15, fun _ h => absurd h List.not_mem_nil⟩⟩⟩⟩⟩⟩⟩⟩⟩⟩⟩⟩⟩⟩⟩⟩
theorem lw_p16 : lw_okq (⟨"BillWall$Lifting", "lookUnder", "(LBillWall$Bills;I)V"⟩, 4) := ⟨⟨by decide +kernel, by decide +kernel⟩, List.mem_of_getElem? (i := 262) (by decide +kernel), List.mem_of_getElem? (i := 736) (by decide +kernel), List.mem_of_getElem? (i := 737) (by decide +kernel)⟩
theorem lw_p17 : lw_okq (⟨"BillWall$Lifting", "isLiftable", "(LBillWall$Bills;I)Z"⟩, 4) := ⟨⟨by decide +kernel, by decide +kernel⟩, List.mem_of_getElem? (i := 262) (by decide +kernel), List.mem_of_getElem? (i := 749) (by decide +kernel), List.mem_of_getElem? (i := 750) (by decide +kernel)⟩
theorem lw_p18 : lw_okq (⟨"BillWall$Lifting", "seenWithout", "(I)I"⟩, 4) := ⟨⟨by decide +kernel, by decide +kernel⟩, List.mem_of_getElem? (i := 262) (by decide +kernel), List.mem_of_getElem? (i := 753) (by decide +kernel), List.mem_of_getElem? (i := 754) (by decide +kernel)⟩
theorem lw_p19 : lw_okq (⟨"BillWall$Bills", "drawOfHundred", "()I"⟩, 12) := ⟨⟨by decide +kernel, by decide +kernel⟩, List.mem_of_getElem? (i := 153) (by decide +kernel), List.mem_of_getElem? (i := 783) (by decide +kernel), List.mem_of_getElem? (i := 784) (by decide +kernel)⟩
theorem lw_p20 : lw_okq (⟨"BillWall$Photograph", "relate", "()Z"⟩, 7) := ⟨⟨by decide +kernel, by decide +kernel⟩, List.mem_of_getElem? (i := 332) (by decide +kernel), List.mem_of_getElem? (i := 836) (by decide +kernel), List.mem_of_getElem? (i := 837) (by decide +kernel)⟩
theorem lw_p21 : lw_okq (⟨"BillWall$Photograph", "hasOrder", "()Z"⟩, 7) := ⟨⟨by decide +kernel, by decide +kernel⟩, List.mem_of_getElem? (i := 332) (by decide +kernel), List.mem_of_getElem? (i := 849) (by decide +kernel), List.mem_of_getElem? (i := 850) (by decide +kernel)⟩
theorem lw_p22 : lw_okq (⟨"BillWall$Photograph", "leastThatCanStand", "(I)I"⟩, 7) := ⟨⟨by decide +kernel, by decide +kernel⟩, List.mem_of_getElem? (i := 332) (by decide +kernel), List.mem_of_getElem? (i := 853) (by decide +kernel), List.mem_of_getElem? (i := 854) (by decide +kernel)⟩
theorem lw_p23 : lw_okq (⟨"BillWall$Places", "isBetter", "(I)Z"⟩, 11) := ⟨⟨by decide +kernel, by decide +kernel⟩, List.mem_of_getElem? (i := 281) (by decide +kernel), List.mem_of_getElem? (i := 876) (by decide +kernel), List.mem_of_getElem? (i := 877) (by decide +kernel)⟩
theorem lw_p24 : lw_okq (⟨"BillWall$Places", "findSecond", "(IIII)V"⟩, 11) := ⟨⟨by decide +kernel, by decide +kernel⟩, List.mem_of_getElem? (i := 281) (by decide +kernel), List.mem_of_getElem? (i := 894) (by decide +kernel), List.mem_of_getElem? (i := 895) (by decide +kernel)⟩
theorem lw_p25 : lw_okq (⟨"BillWall$Places", "takeTurn", "(I)V"⟩, 11) := ⟨⟨by decide +kernel, by decide +kernel⟩, List.mem_of_getElem? (i := 281) (by decide +kernel), List.mem_of_getElem? (i := 912) (by decide +kernel), List.mem_of_getElem? (i := 913) (by decide +kernel)⟩
theorem lw_p26 : lw_okq (⟨"BillWall", "imageOf", "(I)LBillWall$Image;"⟩, 10) := ⟨⟨by decide +kernel, by decide +kernel⟩, List.mem_of_getElem? (i := 19) (by decide +kernel), List.mem_of_getElem? (i := 931) (by decide +kernel), List.mem_of_getElem? (i := 932) (by decide +kernel)⟩
theorem lw_p27 : lw_okq (⟨"BillWallModel", "here", "()I"⟩, 36) := ⟨⟨by decide +kernel, by decide +kernel⟩, List.mem_of_getElem? (i := 940) (by decide +kernel), List.mem_of_getElem? (i := 1074) (by decide +kernel), List.mem_of_getElem? (i := 1075) (by decide +kernel)⟩
theorem lw_p28 : lw_okq (⟨"BillWallModel", "takeClause", "()V"⟩, 36) := ⟨⟨by decide +kernel, by decide +kernel⟩, List.mem_of_getElem? (i := 940) (by decide +kernel), List.mem_of_getElem? (i := 1078) (by decide +kernel), List.mem_of_getElem? (i := 1079) (by decide +kernel)⟩
theorem lw_p29 : lw_okq (⟨"BillWallModel", "takeWord", "()V"⟩, 36) := ⟨⟨by decide +kernel, by decide +kernel⟩, List.mem_of_getElem? (i := 940) (by decide +kernel), List.mem_of_getElem? (i := 1082) (by decide +kernel), List.mem_of_getElem? (i := 1083) (by decide +kernel)⟩
theorem lw_p30 : lw_okq (⟨"BillWallModel", "isWord", "(IIIIII)Z"⟩, 36) := ⟨⟨by decide +kernel, by decide +kernel⟩, List.mem_of_getElem? (i := 940) (by decide +kernel), List.mem_of_getElem? (i := 1088) (by decide +kernel), List.mem_of_getElem? (i := 1089) (by decide +kernel)⟩
theorem lw_p31 : lw_okq (⟨"BillWallModel", "takeSize", "(I)V"⟩, 36) := ⟨⟨by decide +kernel, by decide +kernel⟩, List.mem_of_getElem? (i := 940) (by decide +kernel), List.mem_of_getElem? (i := 1092) (by decide +kernel), List.mem_of_getElem? (i := 1093) (by decide +kernel)⟩
def lw_privs_2 : List (MethodName × Nat) := [(⟨"BillWall$Lifting", "lookUnder", "(LBillWall$Bills;I)V"⟩, 4), (⟨"BillWall$Lifting", "isLiftable", "(LBillWall$Bills;I)Z"⟩, 4), (⟨"BillWall$Lifting", "seenWithout", "(I)I"⟩, 4), (⟨"BillWall$Bills", "drawOfHundred", "()I"⟩, 12), (⟨"BillWall$Photograph", "relate", "()Z"⟩, 7), (⟨"BillWall$Photograph", "hasOrder", "()Z"⟩, 7), (⟨"BillWall$Photograph", "leastThatCanStand", "(I)I"⟩, 7), (⟨"BillWall$Places", "isBetter", "(I)Z"⟩, 11), (⟨"BillWall$Places", "findSecond", "(IIII)V"⟩, 11), (⟨"BillWall$Places", "takeTurn", "(I)V"⟩, 11), (⟨"BillWall", "imageOf", "(I)LBillWall$Image;"⟩, 10), (⟨"BillWallModel", "here", "()I"⟩, 36), (⟨"BillWallModel", "takeClause", "()V"⟩, 36), (⟨"BillWallModel", "takeWord", "()V"⟩, 36), (⟨"BillWallModel", "isWord", "(IIIIII)Z"⟩, 36), (⟨"BillWallModel", "takeSize", "(I)V"⟩, 36)]
theorem lw_r2 : ∀ q ∈ lw_privs_2, lw_okq q := List.forall_mem_cons.mpr ⟨lw_p16, List.forall_mem_cons.mpr ⟨lw_p17, List.forall_mem_cons.mpr ⟨lw_p18, List.forall_mem_cons.mpr ⟨lw_p19, List.forall_mem_cons.mpr ⟨lw_p20, List.forall_mem_cons.mpr ⟨lw_p21, List.forall_mem_cons.mpr ⟨lw_p22, List.forall_mem_cons.mpr ⟨lw_p23, List.forall_mem_cons.mpr ⟨lw_p24, List.forall_mem_cons.mpr ⟨lw_p25, List.forall_mem_cons.mpr ⟨lw_p26, List.forall_mem_cons.mpr ⟨lw_p27, List.forall_mem_cons.mpr ⟨lw_p28, List.forall_mem_cons.mpr ⟨lw_p29, List.forall_mem_cons.mpr ⟨lw_p30, List.forall_mem_cons.mpr ⟨lw_p31, fun _ h => absurd h List.not_mem_nil⟩⟩⟩⟩⟩⟩⟩⟩⟩⟩⟩⟩⟩⟩⟩⟩
theorem lw_p32 : lw_okq (⟨"BillWallModel", "want", "(ZII)Z"⟩, 36) := ⟨⟨by decide +kernel, by decide +kernel⟩, List.mem_of_getElem? (i := 940) (by decide +kernel), List.mem_of_getElem? (i := 1096) (by decide +kernel), List.mem_of_getElem? (i := 1097) (by decide +kernel)⟩
theorem lw_p33 : lw_okq (⟨"BillWallModel", "once", "(II)Z"⟩, 36) := ⟨⟨by decide +kernel, by decide +kernel⟩, List.mem_of_getElem? (i := 940) (by decide +kernel), List.mem_of_getElem? (i := 1100) (by decide +kernel), List.mem_of_getElem? (i := 1101) (by decide +kernel)⟩
theorem lw_p34 : lw_okq (⟨"BillWallModel", "takeNumber", "(II)I"⟩, 36) := ⟨⟨by decide +kernel, by decide +kernel⟩, List.mem_of_getElem? (i := 940) (by decide +kernel), List.mem_of_getElem? (i := 1107) (by decide +kernel), List.mem_of_getElem? (i := 1108) (by decide +kernel)⟩
theorem lw_p35 : lw_okq (⟨"BillWallModel", "takeBare", "(I)V"⟩, 36) := ⟨⟨by decide +kernel, by decide +kernel⟩, List.mem_of_getElem? (i := 940) (by decide +kernel), List.mem_of_getElem? (i := 1114) (by decide +kernel), List.mem_of_getElem? (i := 1115) (by decide +kernel)⟩
theorem lw_p36 : lw_okq (⟨"BillWallModel", "takePass", "()V"⟩, 36) := ⟨⟨by decide +kernel, by decide +kernel⟩, List.mem_of_getElem? (i := 940) (by decide +kernel), List.mem_of_getElem? (i := 1118) (by decide +kernel), List.mem_of_getElem? (i := 1119) (by decide +kernel)⟩
theorem lw_p37 : lw_okq (⟨"BillWallModel", "takeKind", "(I)V"⟩, 36) := ⟨⟨by decide +kernel, by decide +kernel⟩, List.mem_of_getElem? (i := 940) (by decide +kernel), List.mem_of_getElem? (i := 1122) (by decide +kernel), List.mem_of_getElem? (i := 1123) (by decide +kernel)⟩
theorem lw_p38 : lw_okq (⟨"BillWallModel", "isKind", "(I)Z"⟩, 36) := ⟨⟨by decide +kernel, by decide +kernel⟩, List.mem_of_getElem? (i := 940) (by decide +kernel), List.mem_of_getElem? (i := 1142) (by decide +kernel), List.mem_of_getElem? (i := 1143) (by decide +kernel)⟩
theorem lw_p39 : lw_okq (⟨"BillWallModel", "isCell", "(II)Z"⟩, 36) := ⟨⟨by decide +kernel, by decide +kernel⟩, List.mem_of_getElem? (i := 940) (by decide +kernel), List.mem_of_getElem? (i := 1155) (by decide +kernel), List.mem_of_getElem? (i := 1156) (by decide +kernel)⟩
theorem lw_p40 : lw_okq (⟨"BillWallModel", "isWithin", "(III)Z"⟩, 36) := ⟨⟨by decide +kernel, by decide +kernel⟩, List.mem_of_getElem? (i := 940) (by decide +kernel), List.mem_of_getElem? (i := 1166) (by decide +kernel), List.mem_of_getElem? (i := 1167) (by decide +kernel)⟩
theorem lw_p41 : lw_okq (⟨"BillWallModel", "isClear", "(III)Z"⟩, 36) := ⟨⟨by decide +kernel, by decide +kernel⟩, List.mem_of_getElem? (i := 940) (by decide +kernel), List.mem_of_getElem? (i := 1170) (by decide +kernel), List.mem_of_getElem? (i := 1171) (by decide +kernel)⟩
theorem lw_p42 : lw_okq (⟨"BillWallModel", "reaches", "(IIII)Z"⟩, 36) := ⟨⟨by decide +kernel, by decide +kernel⟩, List.mem_of_getElem? (i := 940) (by decide +kernel), List.mem_of_getElem? (i := 1174) (by decide +kernel), List.mem_of_getElem? (i := 1175) (by decide +kernel)⟩
theorem lw_p43 : lw_okq (⟨"BillWallModel", "lay", "(IIII)I"⟩, 36) := ⟨⟨by decide +kernel, by decide +kernel⟩, List.mem_of_getElem? (i := 940) (by decide +kernel), List.mem_of_getElem? (i := 1179) (by decide +kernel), List.mem_of_getElem? (i := 1180) (by decide +kernel)⟩
theorem lw_p44 : lw_okq (⟨"BillWallModel", "see", "(I)V"⟩, 36) := ⟨⟨by decide +kernel, by decide +kernel⟩, List.mem_of_getElem? (i := 940) (by decide +kernel), List.mem_of_getElem? (i := 1183) (by decide +kernel), List.mem_of_getElem? (i := 1184) (by decide +kernel)⟩
theorem lw_p45 : lw_okq (⟨"BillWallModel", "aboveAt", "(II)I"⟩, 36) := ⟨⟨by decide +kernel, by decide +kernel⟩, List.mem_of_getElem? (i := 940) (by decide +kernel), List.mem_of_getElem? (i := 1187) (by decide +kernel), List.mem_of_getElem? (i := 1188) (by decide +kernel)⟩
theorem lw_p46 : lw_okq (⟨"BillWallModel", "lies", "(III)Z"⟩, 36) := ⟨⟨by decide +kernel, by decide +kernel⟩, List.mem_of_getElem? (i := 940) (by decide +kernel), List.mem_of_getElem? (i := 1191) (by decide +kernel), List.mem_of_getElem? (i := 1192) (by decide +kernel)⟩
theorem lw_p47 : lw_okq (⟨"BillWallModel", "isTorn", "(III)Z"⟩, 36) := ⟨⟨by decide +kernel, by decide +kernel⟩, List.mem_of_getElem? (i := 940) (by decide +kernel), List.mem_of_getElem? (i := 1195) (by decide +kernel), List.mem_of_getElem? (i := 1196) (by decide +kernel)⟩
def lw_privs_3 : List (MethodName × Nat) := [(⟨"BillWallModel", "want", "(ZII)Z"⟩, 36), (⟨"BillWallModel", "once", "(II)Z"⟩, 36), (⟨"BillWallModel", "takeNumber", "(II)I"⟩, 36), (⟨"BillWallModel", "takeBare", "(I)V"⟩, 36), (⟨"BillWallModel", "takePass", "()V"⟩, 36), (⟨"BillWallModel", "takeKind", "(I)V"⟩, 36), (⟨"BillWallModel", "isKind", "(I)Z"⟩, 36), (⟨"BillWallModel", "isCell", "(II)Z"⟩, 36), (⟨"BillWallModel", "isWithin", "(III)Z"⟩, 36), (⟨"BillWallModel", "isClear", "(III)Z"⟩, 36), (⟨"BillWallModel", "reaches", "(IIII)Z"⟩, 36), (⟨"BillWallModel", "lay", "(IIII)I"⟩, 36), (⟨"BillWallModel", "see", "(I)V"⟩, 36), (⟨"BillWallModel", "aboveAt", "(II)I"⟩, 36), (⟨"BillWallModel", "lies", "(III)Z"⟩, 36), (⟨"BillWallModel", "isTorn", "(III)Z"⟩, 36)]
theorem lw_r3 : ∀ q ∈ lw_privs_3, lw_okq q := List.forall_mem_cons.mpr ⟨lw_p32, List.forall_mem_cons.mpr ⟨lw_p33, List.forall_mem_cons.mpr ⟨lw_p34, List.forall_mem_cons.mpr ⟨lw_p35, List.forall_mem_cons.mpr ⟨lw_p36, List.forall_mem_cons.mpr ⟨lw_p37, List.forall_mem_cons.mpr ⟨lw_p38, List.forall_mem_cons.mpr ⟨lw_p39, List.forall_mem_cons.mpr ⟨lw_p40, List.forall_mem_cons.mpr ⟨lw_p41, List.forall_mem_cons.mpr ⟨lw_p42, List.forall_mem_cons.mpr ⟨lw_p43, List.forall_mem_cons.mpr ⟨lw_p44, List.forall_mem_cons.mpr ⟨lw_p45, List.forall_mem_cons.mpr ⟨lw_p46, List.forall_mem_cons.mpr ⟨lw_p47, fun _ h => absurd h List.not_mem_nil⟩⟩⟩⟩⟩⟩⟩⟩⟩⟩⟩⟩⟩⟩⟩⟩
theorem lw_p48 : lw_okq (⟨"BillWallModel", "ownerOf", "(II)I"⟩, 36) := ⟨⟨by decide +kernel, by decide +kernel⟩, List.mem_of_getElem? (i := 940) (by decide +kernel), List.mem_of_getElem? (i := 1199) (by decide +kernel), List.mem_of_getElem? (i := 1200) (by decide +kernel)⟩
theorem lw_p49 : lw_okq (⟨"BillWallModel", "isBill", "(I)Z"⟩, 36) := ⟨⟨by decide +kernel, by decide +kernel⟩, List.mem_of_getElem? (i := 940) (by decide +kernel), List.mem_of_getElem? (i := 1216) (by decide +kernel), List.mem_of_getElem? (i := 1217) (by decide +kernel)⟩
theorem lw_p50 : lw_okq (⟨"BillWallModel", "tornMany", "(I)I"⟩, 36) := ⟨⟨by decide +kernel, by decide +kernel⟩, List.mem_of_getElem? (i := 940) (by decide +kernel), List.mem_of_getElem? (i := 1220) (by decide +kernel), List.mem_of_getElem? (i := 1221) (by decide +kernel)⟩
theorem lw_p51 : lw_okq (⟨"BillWallModel", "isRead", "(II)Z"⟩, 36) := ⟨⟨by decide +kernel, by decide +kernel⟩, List.mem_of_getElem? (i := 940) (by decide +kernel), List.mem_of_getElem? (i := 1224) (by decide +kernel), List.mem_of_getElem? (i := 1225) (by decide +kernel)⟩
theorem lw_p52 : lw_okq (⟨"BillWallModel", "sizeOf", "(I)I"⟩, 36) := ⟨⟨by decide +kernel, by decide +kernel⟩, List.mem_of_getElem? (i := 940) (by decide +kernel), List.mem_of_getElem? (i := 1228) (by decide +kernel), List.mem_of_getElem? (i := 1229) (by decide +kernel)⟩
theorem lw_p53 : lw_okq (⟨"BillWallModel", "overOf", "(I)I"⟩, 36) := ⟨⟨by decide +kernel, by decide +kernel⟩, List.mem_of_getElem? (i := 940) (by decide +kernel), List.mem_of_getElem? (i := 1236) (by decide +kernel), List.mem_of_getElem? (i := 1237) (by decide +kernel)⟩
theorem lw_p54 : lw_okq (⟨"BillWallModel", "freeOf", "(I)I"⟩, 36) := ⟨⟨by decide +kernel, by decide +kernel⟩, List.mem_of_getElem? (i := 940) (by decide +kernel), List.mem_of_getElem? (i := 1244) (by decide +kernel), List.mem_of_getElem? (i := 1245) (by decide +kernel)⟩
theorem lw_p55 : lw_okq (⟨"BillWallModel", "isWhole", "(I)Z"⟩, 36) := ⟨⟨by decide +kernel, by decide +kernel⟩, List.mem_of_getElem? (i := 940) (by decide +kernel), List.mem_of_getElem? (i := 1255) (by decide +kernel), List.mem_of_getElem? (i := 1256) (by decide +kernel)⟩
theorem lw_p56 : lw_okq (⟨"BillWallModel", "isReadWithout", "(II)Z"⟩, 36) := ⟨⟨by decide +kernel, by decide +kernel⟩, List.mem_of_getElem? (i := 940) (by decide +kernel), List.mem_of_getElem? (i := 1259) (by decide +kernel), List.mem_of_getElem? (i := 1260) (by decide +kernel)⟩
theorem lw_p57 : lw_okq (⟨"BillWallModel", "copy", "(II)V"⟩, 36) := ⟨⟨by decide +kernel, by decide +kernel⟩, List.mem_of_getElem? (i := 940) (by decide +kernel), List.mem_of_getElem? (i := 1263) (by decide +kernel), List.mem_of_getElem? (i := 1264) (by decide +kernel)⟩
theorem lw_p58 : lw_okq (⟨"BillWallModel", "tearAt", "(I)I"⟩, 36) := ⟨⟨by decide +kernel, by decide +kernel⟩, List.mem_of_getElem? (i := 940) (by decide +kernel), List.mem_of_getElem? (i := 1275) (by decide +kernel), List.mem_of_getElem? (i := 1276) (by decide +kernel)⟩
theorem lw_p59 : lw_okq (⟨"BillWallModel", "draw", "(I)I"⟩, 36) := ⟨⟨by decide +kernel, by decide +kernel⟩, List.mem_of_getElem? (i := 940) (by decide +kernel), List.mem_of_getElem? (i := 1284) (by decide +kernel), List.mem_of_getElem? (i := 1285) (by decide +kernel)⟩
theorem lw_p60 : lw_okq (⟨"BillWallModel", "worthOf", "(II)I"⟩, 36) := ⟨⟨by decide +kernel, by decide +kernel⟩, List.mem_of_getElem? (i := 940) (by decide +kernel), List.mem_of_getElem? (i := 1297) (by decide +kernel), List.mem_of_getElem? (i := 1298) (by decide +kernel)⟩
theorem lw_p61 : lw_okq (⟨"BillWallModel", "onMany", "(I)I"⟩, 36) := ⟨⟨by decide +kernel, by decide +kernel⟩, List.mem_of_getElem? (i := 940) (by decide +kernel), List.mem_of_getElem? (i := 1301) (by decide +kernel), List.mem_of_getElem? (i := 1302) (by decide +kernel)⟩
theorem lw_p62 : lw_okq (⟨"BillWallModel", "ordersOf", "()I"⟩, 36) := ⟨⟨by decide +kernel, by decide +kernel⟩, List.mem_of_getElem? (i := 940) (by decide +kernel), List.mem_of_getElem? (i := 1318) (by decide +kernel), List.mem_of_getElem? (i := 1319) (by decide +kernel)⟩
theorem lw_p63 : lw_okq (⟨"BillWallModel", "findBelow", "()Z"⟩, 36) := ⟨⟨by decide +kernel, by decide +kernel⟩, List.mem_of_getElem? (i := 940) (by decide +kernel), List.mem_of_getElem? (i := 1322) (by decide +kernel), List.mem_of_getElem? (i := 1323) (by decide +kernel)⟩
def lw_privs_4 : List (MethodName × Nat) := [(⟨"BillWallModel", "ownerOf", "(II)I"⟩, 36), (⟨"BillWallModel", "isBill", "(I)Z"⟩, 36), (⟨"BillWallModel", "tornMany", "(I)I"⟩, 36), (⟨"BillWallModel", "isRead", "(II)Z"⟩, 36), (⟨"BillWallModel", "sizeOf", "(I)I"⟩, 36), (⟨"BillWallModel", "overOf", "(I)I"⟩, 36), (⟨"BillWallModel", "freeOf", "(I)I"⟩, 36), (⟨"BillWallModel", "isWhole", "(I)Z"⟩, 36), (⟨"BillWallModel", "isReadWithout", "(II)Z"⟩, 36), (⟨"BillWallModel", "copy", "(II)V"⟩, 36), (⟨"BillWallModel", "tearAt", "(I)I"⟩, 36), (⟨"BillWallModel", "draw", "(I)I"⟩, 36), (⟨"BillWallModel", "worthOf", "(II)I"⟩, 36), (⟨"BillWallModel", "onMany", "(I)I"⟩, 36), (⟨"BillWallModel", "ordersOf", "()I"⟩, 36), (⟨"BillWallModel", "findBelow", "()Z"⟩, 36)]
theorem lw_r4 : ∀ q ∈ lw_privs_4, lw_okq q := List.forall_mem_cons.mpr ⟨lw_p48, List.forall_mem_cons.mpr ⟨lw_p49, List.forall_mem_cons.mpr ⟨lw_p50, List.forall_mem_cons.mpr ⟨lw_p51, List.forall_mem_cons.mpr ⟨lw_p52, List.forall_mem_cons.mpr ⟨lw_p53, List.forall_mem_cons.mpr ⟨lw_p54, List.forall_mem_cons.mpr ⟨lw_p55, List.forall_mem_cons.mpr ⟨lw_p56, List.forall_mem_cons.mpr ⟨lw_p57, List.forall_mem_cons.mpr ⟨lw_p58, List.forall_mem_cons.mpr ⟨lw_p59, List.forall_mem_cons.mpr ⟨lw_p60, List.forall_mem_cons.mpr ⟨lw_p61, List.forall_mem_cons.mpr ⟨lw_p62, List.forall_mem_cons.mpr ⟨lw_p63, fun _ h => absurd h List.not_mem_nil⟩⟩⟩⟩⟩⟩⟩⟩⟩⟩⟩⟩⟩⟩⟩⟩
theorem lw_p64 : lw_okq (⟨"BillWallModel", "hasCell", "(II)Z"⟩, 36) := ⟨⟨by decide +kernel, by decide +kernel⟩, List.mem_of_getElem? (i := 940) (by decide +kernel), List.mem_of_getElem? (i := 1326) (by decide +kernel), List.mem_of_getElem? (i := 1327) (by decide +kernel)⟩
theorem lw_p65 : lw_okq (⟨"BillWallModel", "findBest", "(II)V"⟩, 36) := ⟨⟨by decide +kernel, by decide +kernel⟩, List.mem_of_getElem? (i := 940) (by decide +kernel), List.mem_of_getElem? (i := 1343) (by decide +kernel), List.mem_of_getElem? (i := 1344) (by decide +kernel)⟩
theorem lw_p66 : lw_okq (⟨"BillWallModel", "isPlace", "(II)Z"⟩, 36) := ⟨⟨by decide +kernel, by decide +kernel⟩, List.mem_of_getElem? (i := 940) (by decide +kernel), List.mem_of_getElem? (i := 1347) (by decide +kernel), List.mem_of_getElem? (i := 1348) (by decide +kernel)⟩
theorem lw_p67 : lw_okq (⟨"BillWallModel", "undo", "(II)V"⟩, 36) := ⟨⟨by decide +kernel, by decide +kernel⟩, List.mem_of_getElem? (i := 940) (by decide +kernel), List.mem_of_getElem? (i := 1351) (by decide +kernel), List.mem_of_getElem? (i := 1352) (by decide +kernel)⟩
theorem lw_p68 : lw_okq (⟨"BillWallModel", "takeTurn", "(I)V"⟩, 36) := ⟨⟨by decide +kernel, by decide +kernel⟩, List.mem_of_getElem? (i := 940) (by decide +kernel), List.mem_of_getElem? (i := 1365) (by decide +kernel), List.mem_of_getElem? (i := 1366) (by decide +kernel)⟩
def lw_privs_5 : List (MethodName × Nat) := [(⟨"BillWallModel", "hasCell", "(II)Z"⟩, 36), (⟨"BillWallModel", "findBest", "(II)V"⟩, 36), (⟨"BillWallModel", "isPlace", "(II)Z"⟩, 36), (⟨"BillWallModel", "undo", "(II)V"⟩, 36), (⟨"BillWallModel", "takeTurn", "(I)V"⟩, 36)]
theorem lw_r5 : ∀ q ∈ lw_privs_5, lw_okq q := List.forall_mem_cons.mpr ⟨lw_p64, List.forall_mem_cons.mpr ⟨lw_p65, List.forall_mem_cons.mpr ⟨lw_p66, List.forall_mem_cons.mpr ⟨lw_p67, List.forall_mem_cons.mpr ⟨lw_p68, fun _ h => absurd h List.not_mem_nil⟩⟩⟩⟩⟩
def lw_privs : List (MethodName × Nat) := lw_privs_1 ++ (lw_privs_2 ++ (lw_privs_3 ++ (lw_privs_4 ++ (lw_privs_5))))
def lw_tbl : List Cond := k2_sels lw_privs ++ tables_1
theorem lw_privs_ok : ∀ q ∈ lw_privs, lw_okq q := by
  show ∀ q ∈ lw_privs_1 ++ (lw_privs_2 ++ (lw_privs_3 ++ (lw_privs_4 ++ (lw_privs_5)))), lw_okq q
  exact List.forall_mem_append.mpr ⟨lw_r1, List.forall_mem_append.mpr ⟨lw_r2, List.forall_mem_append.mpr ⟨lw_r3, List.forall_mem_append.mpr ⟨lw_r4, lw_r5⟩⟩⟩⟩
-- ===== end of PART A; then your names; then what follows =====
-- ===== names: the classes, their fields in the order of the slots =====
def RX0 : String := "BillWall$Bills"
def TX0 : u_T := fun k => match k with
  | 0 => ("BillWall$Bills", "plan", "LBillWall$Plan;", true)
  | 1 => ("BillWall$Bills", "count", "I", false)
  | 2 => ("BillWall$Bills", "today", "I", false)
  | 3 => ("BillWall$Bills", "draws", "I", false)
  | 4 => ("BillWall$Bills", "kinds", "[I", true)
  | 5 => ("BillWall$Bills", "columns", "[I", true)
  | 6 => ("BillWall$Bills", "rows", "[I", true)
  | 7 => ("BillWall$Bills", "pastedOn", "[I", true)
  | 8 => ("BillWall$Bills", "fines", "[I", true)
  | 9 => ("BillWall$Bills", "on", "I", false)
  | 10 => ("BillWall$Bills", "whole", "[I", true)
  | _ => ("BillWall$Bills", "torn", "[I", true)
def tyX0 : Nat → FieldType := fun k => match k with
  | 0 => .object "BillWall$Plan"
  | 1 => .int
  | 2 => .int
  | 3 => .int
  | 4 => .array .int
  | 5 => .array .int
  | 6 => .array .int
  | 7 => .array .int
  | 8 => .array .int
  | 9 => .int
  | 10 => .array .int
  | _ => .array .int
abbrev wsX00 : List Cond := u_ws RX0 TX0 12
theorem nmX0 : ∀ a, a < 12 → ∀ b, b < 12 → a ≠ b → (TX0 a).2.1 ≠ (TX0 b).2.1 := by decide +kernel
theorem tyX0_ok : ∀ k, k < 12 → parseFieldDescriptor (TX0 k).2.2.1 = some (tyX0 k) := by decide +kernel
def RX1 : String := "BillWall$Image"
def TX1 : u_T := fun k => match k with
  | 0 => ("BillWall$Image", "bills", "LBillWall$Bills;", true)
  | _ => ("BillWall$Image", "kept", "Z", false)
def tyX1 : Nat → FieldType := fun k => match k with
  | 0 => .object "BillWall$Bills"
  | _ => .boolean
abbrev wsX10 : List Cond := u_ws RX1 TX1 2
theorem nmX1 : ∀ a, a < 2 → ∀ b, b < 2 → a ≠ b → (TX1 a).2.1 ≠ (TX1 b).2.1 := by decide +kernel
theorem tyX1_ok : ∀ k, k < 2 → parseFieldDescriptor (TX1 k).2.2.1 = some (tyX1 k) := by decide +kernel
def RX2 : String := "BillWall$Lifting"
def TX2 : u_T := fun k => match k with
  | 0 => ("BillWall$Lifting", "plan", "LBillWall$Plan;", true)
  | 1 => ("BillWall$Lifting", "covers", "[I", true)
  | 2 => ("BillWall$Lifting", "hiding", "[I", true)
  | _ => ("BillWall$Lifting", "cells", "I", false)
def tyX2 : Nat → FieldType := fun k => match k with
  | 0 => .object "BillWall$Plan"
  | 1 => .array .int
  | 2 => .array .int
  | _ => .int
abbrev wsX20 : List Cond := u_ws RX2 TX2 4
theorem nmX2 : ∀ a, a < 4 → ∀ b, b < 4 → a ≠ b → (TX2 a).2.1 ≠ (TX2 b).2.1 := by decide +kernel
theorem tyX2_ok : ∀ k, k < 4 → parseFieldDescriptor (TX2 k).2.2.1 = some (tyX2 k) := by decide +kernel
def RX3 : String := "BillWall$Photograph"
def TX3 : u_T := fun k => match k with
  | 0 => ("BillWall$Photograph", "plan", "LBillWall$Plan;", true)
  | 1 => ("BillWall$Photograph", "count", "I", false)
  | 2 => ("BillWall$Photograph", "here", "[I", true)
  | 3 => ("BillWall$Photograph", "tops", "[I", true)
  | 4 => ("BillWall$Photograph", "below", "[I", true)
  | 5 => ("BillWall$Photograph", "first", "[I", true)
  | _ => ("BillWall$Photograph", "ways", "[I", true)
def tyX3 : Nat → FieldType := fun k => match k with
  | 0 => .object "BillWall$Plan"
  | 1 => .int
  | 2 => .array .int
  | 3 => .array .int
  | 4 => .array .int
  | 5 => .array .int
  | _ => .array .int
abbrev wsX30 : List Cond := u_ws RX3 TX3 7
theorem nmX3 : ∀ a, a < 7 → ∀ b, b < 7 → a ≠ b → (TX3 a).2.1 ≠ (TX3 b).2.1 := by decide +kernel
theorem tyX3_ok : ∀ k, k < 7 → parseFieldDescriptor (TX3 k).2.2.1 = some (tyX3 k) := by decide +kernel
def RX4 : String := "BillWall$Places"
def TX4 : u_T := fun k => match k with
  | 0 => ("BillWall$Places", "plan", "LBillWall$Plan;", true)
  | 1 => ("BillWall$Places", "trial", "LBillWall$Bills;", true)
  | 2 => ("BillWall$Places", "now", "LBillWall$Sight;", true)
  | 3 => ("BillWall$Places", "then", "LBillWall$Sight;", true)
  | 4 => ("BillWall$Places", "found", "Z", false)
  | 5 => ("BillWall$Places", "column", "I", false)
  | 6 => ("BillWall$Places", "row", "I", false)
  | 7 => ("BillWall$Places", "secondColumn", "I", false)
  | 8 => ("BillWall$Places", "secondRow", "I", false)
  | 9 => ("BillWall$Places", "gain", "I", false)
  | _ => ("BillWall$Places", "pasted", "I", false)
def tyX4 : Nat → FieldType := fun k => match k with
  | 0 => .object "BillWall$Plan"
  | 1 => .object "BillWall$Bills"
  | 2 => .object "BillWall$Sight"
  | 3 => .object "BillWall$Sight"
  | 4 => .boolean
  | 5 => .int
  | 6 => .int
  | 7 => .int
  | 8 => .int
  | 9 => .int
  | _ => .int
abbrev wsX40 : List Cond := u_ws RX4 TX4 11
theorem nmX4 : ∀ a, a < 11 → ∀ b, b < 11 → a ≠ b → (TX4 a).2.1 ≠ (TX4 b).2.1 := by decide +kernel
theorem tyX4_ok : ∀ k, k < 11 → parseFieldDescriptor (TX4 k).2.2.1 = some (tyX4 k) := by decide +kernel
def RX5 : String := "BillWall$Plan"
def TX5 : u_T := fun k => match k with
  | 0 => ("BillWall$Plan", "columns", "I", false)
  | 1 => ("BillWall$Plan", "rows", "I", false)
  | 2 => ("BillWall$Plan", "guard", "I", false)
  | 3 => ("BillWall$Plan", "fine", "I", false)
  | 4 => ("BillWall$Plan", "percent", "I", false)
  | 5 => ("BillWall$Plan", "strips", "I", false)
  | 6 => ("BillWall$Plan", "kinds", "I", false)
  | 7 => ("BillWall$Plan", "passers", "[I", true)
  | 8 => ("BillWall$Plan", "barred", "[I", true)
  | 9 => ("BillWall$Plan", "owners", "[I", true)
  | 10 => ("BillWall$Plan", "widths", "[I", true)
  | _ => ("BillWall$Plan", "heights", "[I", true)
def tyX5 : Nat → FieldType := fun k => match k with
  | 0 => .int
  | 1 => .int
  | 2 => .int
  | 3 => .int
  | 4 => .int
  | 5 => .int
  | 6 => .int
  | 7 => .array .int
  | 8 => .array .int
  | 9 => .array .int
  | 10 => .array .int
  | _ => .array .int
abbrev wsX50 : List Cond := u_ws RX5 TX5 12
theorem nmX5 : ∀ a, a < 12 → ∀ b, b < 12 → a ≠ b → (TX5 a).2.1 ≠ (TX5 b).2.1 := by decide +kernel
theorem tyX5_ok : ∀ k, k < 12 → parseFieldDescriptor (TX5 k).2.2.1 = some (tyX5 k) := by decide +kernel
def RX6 : String := "BillWall$Reader"
def TX6 : u_T := fun k => match k with
  | 0 => ("BillWall$Reader", "text", "[C", true)
  | 1 => ("BillWall$Reader", "length", "I", false)
  | 2 => ("BillWall$Reader", "place", "I", false)
  | 3 => ("BillWall$Reader", "numberPlace", "I", false)
  | 4 => ("BillWall$Reader", "faultNumber", "I", false)
  | 5 => ("BillWall$Reader", "faultPlace", "I", false)
  | 6 => ("BillWall$Reader", "toldClauses", "I", false)
  | _ => ("BillWall$Reader", "toldColumns", "I", false)
def tyX6 : Nat → FieldType := fun k => match k with
  | 0 => .array .char
  | 1 => .int
  | 2 => .int
  | 3 => .int
  | 4 => .int
  | 5 => .int
  | 6 => .int
  | _ => .int
abbrev wsX60 : List Cond := u_ws RX6 TX6 8
theorem nmX6 : ∀ a, a < 8 → ∀ b, b < 8 → a ≠ b → (TX6 a).2.1 ≠ (TX6 b).2.1 := by decide +kernel
theorem tyX6_ok : ∀ k, k < 8 → parseFieldDescriptor (TX6 k).2.2.1 = some (tyX6 k) := by decide +kernel
def RX7 : String := "BillWall$Sight"
def TX7 : u_T := fun k => match k with
  | 0 => ("BillWall$Sight", "plan", "LBillWall$Plan;", true)
  | 1 => ("BillWall$Sight", "tops", "[I", true)
  | 2 => ("BillWall$Sight", "seen", "[I", true)
  | 3 => ("BillWall$Sight", "passers", "[I", true)
  | 4 => ("BillWall$Sight", "lostSeen", "[I", true)
  | 5 => ("BillWall$Sight", "lostPassers", "[I", true)
  | 6 => ("BillWall$Sight", "gain", "I", false)
  | _ => ("BillWall$Sight", "due", "I", false)
def tyX7 : Nat → FieldType := fun k => match k with
  | 0 => .object "BillWall$Plan"
  | 1 => .array .int
  | 2 => .array .int
  | 3 => .array .int
  | 4 => .array .int
  | 5 => .array .int
  | 6 => .int
  | _ => .int
abbrev wsX70 : List Cond := u_ws RX7 TX7 8
theorem nmX7 : ∀ a, a < 8 → ∀ b, b < 8 → a ≠ b → (TX7 a).2.1 ≠ (TX7 b).2.1 := by decide +kernel
theorem tyX7_ok : ∀ k, k < 8 → parseFieldDescriptor (TX7 k).2.2.1 = some (tyX7 k) := by decide +kernel
def RX8 : String := "BillWall"
def TX8 : u_T := fun k => match k with
  | 0 => ("BillWall", "plan", "LBillWall$Plan;", true)
  | 1 => ("BillWall", "draft", "LBillWall$Plan;", true)
  | 2 => ("BillWall", "reader", "LBillWall$Reader;", true)
  | 3 => ("BillWall", "bills", "LBillWall$Bills;", true)
  | 4 => ("BillWall", "firstImage", "LBillWall$Image;", true)
  | 5 => ("BillWall", "secondImage", "LBillWall$Image;", true)
  | 6 => ("BillWall", "sight", "LBillWall$Sight;", true)
  | 7 => ("BillWall", "lifting", "LBillWall$Lifting;", true)
  | 8 => ("BillWall", "places", "LBillWall$Places;", true)
  | _ => ("BillWall", "photograph", "LBillWall$Photograph;", true)
def tyX8 : Nat → FieldType := fun k => match k with
  | 0 => .object "BillWall$Plan"
  | 1 => .object "BillWall$Plan"
  | 2 => .object "BillWall$Reader"
  | 3 => .object "BillWall$Bills"
  | 4 => .object "BillWall$Image"
  | 5 => .object "BillWall$Image"
  | 6 => .object "BillWall$Sight"
  | 7 => .object "BillWall$Lifting"
  | 8 => .object "BillWall$Places"
  | _ => .object "BillWall$Photograph"
abbrev wsX80 : List Cond := u_ws RX8 TX8 10
theorem nmX8 : ∀ a, a < 10 → ∀ b, b < 10 → a ≠ b → (TX8 a).2.1 ≠ (TX8 b).2.1 := by decide +kernel
theorem tyX8_ok : ∀ k, k < 10 → parseFieldDescriptor (TX8 k).2.2.1 = some (tyX8 k) := by decide +kernel
def RX9 : String := "BillWallModel"
def TX9 : u_T := fun k => match k with
  | 0 => ("BillWallModel", "w", "[I", true)
  | 1 => ("BillWallModel", "isKept", "[Z", true)
  | 2 => ("BillWallModel", "wall", "[I", true)
  | 3 => ("BillWallModel", "pass", "[I", true)
  | 4 => ("BillWallModel", "isBare", "[Z", true)
  | 5 => ("BillWallModel", "strips", "I", false)
  | 6 => ("BillWallModel", "owners", "[I", true)
  | 7 => ("BillWallModel", "wides", "[I", true)
  | 8 => ("BillWallModel", "highs", "[I", true)
  | 9 => ("BillWallModel", "kinds", "I", false)
  | 10 => ("BillWallModel", "newStrips", "I", false)
  | 11 => ("BillWallModel", "newKinds", "I", false)
  | 12 => ("BillWallModel", "text", "[I", true)
  | 13 => ("BillWallModel", "textSize", "I", false)
  | 14 => ("BillWallModel", "at", "I", false)
  | 15 => ("BillWallModel", "first", "I", false)
  | 16 => ("BillWallModel", "length", "I", false)
  | 17 => ("BillWallModel", "faultOf", "I", false)
  | 18 => ("BillWallModel", "fault", "I", false)
  | 19 => ("BillWallModel", "toldKinds", "I", false)
  | 20 => ("BillWallModel", "toldColumns", "I", false)
  | 21 => ("BillWallModel", "isBound", "Z", false)
  | 22 => ("BillWallModel", "seen", "[I", true)
  | 23 => ("BillWallModel", "met", "[I", true)
  | 24 => ("BillWallModel", "before", "[I", true)
  | 25 => ("BillWallModel", "overs", "[I", true)
  | 26 => ("BillWallModel", "shown", "I", false)
  | 27 => ("BillWallModel", "showKind", "[I", true)
  | 28 => ("BillWallModel", "showX", "[I", true)
  | 29 => ("BillWallModel", "showY", "[I", true)
  | 30 => ("BillWallModel", "looked", "[I", true)
  | 31 => ("BillWallModel", "below", "[I", true)
  | 32 => ("BillWallModel", "ways", "[I", true)
  | 33 => ("BillWallModel", "bestCell", "I", false)
  | 34 => ("BillWallModel", "bestGain", "I", false)
  | _ => ("BillWallModel", "pasted", "I", false)
def tyX9 : Nat → FieldType := fun k => match k with
  | 0 => .array .int
  | 1 => .array .boolean
  | 2 => .array .int
  | 3 => .array .int
  | 4 => .array .boolean
  | 5 => .int
  | 6 => .array .int
  | 7 => .array .int
  | 8 => .array .int
  | 9 => .int
  | 10 => .int
  | 11 => .int
  | 12 => .array .int
  | 13 => .int
  | 14 => .int
  | 15 => .int
  | 16 => .int
  | 17 => .int
  | 18 => .int
  | 19 => .int
  | 20 => .int
  | 21 => .boolean
  | 22 => .array .int
  | 23 => .array .int
  | 24 => .array .int
  | 25 => .array .int
  | 26 => .int
  | 27 => .array .int
  | 28 => .array .int
  | 29 => .array .int
  | 30 => .array .int
  | 31 => .array .int
  | 32 => .array .int
  | 33 => .int
  | 34 => .int
  | _ => .int
abbrev wsX90 : List Cond := u_ws RX9 TX9 36
theorem nmX9 : ∀ a, a < 36 → ∀ b, b < 36 → a ≠ b → (TX9 a).2.1 ≠ (TX9 b).2.1 := by decide +kernel
theorem tyX9_ok : ∀ k, k < 36 → parseFieldDescriptor (TX9 k).2.2.1 = some (tyX9 k) := by decide +kernel
abbrev a_cl : List vw_C := [(RX0, TX0, 12), (RX1, TX1, 2), (RX2, TX2, 4), (RX3, TX3, 7), (RX4, TX4, 11), (RX5, TX5, 12), (RX6, TX6, 8), (RX7, TX7, 8), (RX8, TX8, 10), (RX9, TX9, 36)]
def a_Cn (cn : Nat) : String := match cn with
  | 0 => "BillWall$Bills"
  | 1 => "BillWall$Image"
  | 2 => "BillWall$Lifting"
  | 3 => "BillWall$Photograph"
  | 4 => "BillWall$Places"
  | 5 => "BillWall$Plan"
  | 6 => "BillWall$Reader"
  | 7 => "BillWall$Sight"
  | 8 => "BillWall"
  | 9 => "BillWallModel"
  | 10 => "BillWallLaw"
  | 11 => "java/lang/Integer"
  | 12 => "java/util/Arrays"
  | _ => ""
def a_ty (ci : Nat) : Nat → FieldType := match ci with
  | 0 => tyX0
  | 1 => tyX1
  | 2 => tyX2
  | 3 => tyX3
  | 4 => tyX4
  | 5 => tyX5
  | 6 => tyX6
  | 7 => tyX7
  | 8 => tyX8
  | _ => tyX9
end
section
abbrev a_IL : Type := List (Nat × Instr × Nat)
/-- class number, name, code, most locals, what it returns, frames and local words below it, the place of its code word, its instructions -/
abbrev a_Mth : Type := Nat × MethodName × ByteArray × Nat × Option FieldType × Nat × Nat × (Nat × Nat) × a_IL
def ilX0_init : a_IL := [(0, .aload_n 0, 1), (1, .invokespecial 3, 3), (4, .aload_n 0, 1), (5, .bipush 20, 2), (7, .newarray .int, 2), (9, .putfield 9, 3), (12, .aload_n 0, 1), (13, .bipush 20, 2), (15, .newarray .int, 2), (17, .putfield 15, 3), (20, .aload_n 0, 1), (21, .bipush 20, 2), (23, .newarray .int, 2), (25, .putfield 18, 3), (28, .aload_n 0, 1), (29, .bipush 20, 2), (31, .newarray .int, 2), (33, .putfield 21, 3), (36, .aload_n 0, 1), (37, .bipush 6, 2), (39, .newarray .int, 2), (41, .putfield 24, 3), (44, .aload_n 0, 1), (45, .sipush 128, 3), (48, .newarray .int, 2), (50, .putfield 27, 3), (53, .aload_n 0, 1), (54, .sipush 128, 3), (57, .newarray .int, 2), (59, .putfield 30, 3), (62, .aload_n 0, 1), (63, .aload_n 1, 1), (64, .putfield 33, 3), (67, .return_, 1)]
def mX0_init : a_Mth := (0, ⟨"BillWall$Bills", "<init>", "(LBillWall$Plan;)V"⟩, prog_2_method_1_code, 2, (Option.none : Option FieldType), 1, 20, (1, 156), ilX0_init)
def ilX0_takeAllAway : a_IL := [(0, .aload_n 0, 1), (1, .iconst 0, 1), (2, .putfield 37, 3), (5, .aload_n 0, 1), (6, .iconst 0, 1), (7, .putfield 41, 3), (10, .aload_n 0, 1), (11, .iconst 0, 1), (12, .putfield 44, 3), (15, .aload_n 0, 1), (16, .getfield 24, 3), (19, .iconst 0, 1), (20, .invokestatic 47, 3), (23, .aload_n 0, 1), (24, .getfield 27, 3), (27, .iconst 0, 1), (28, .invokestatic 47, 3), (31, .aload_n 0, 1), (32, .getfield 30, 3), (35, .iconst 0, 1), (36, .invokestatic 47, 3), (39, .return_, 1)]
def mX0_takeAllAway : a_Mth := (0, ⟨"BillWall$Bills", "takeAllAway", "()V"⟩, prog_2_method_2_code, 1, (Option.none : Option FieldType), 1, 23, (3, 78), ilX0_takeAllAway)
def ilX0_copyFrom : a_IL := [(0, .aload_n 0, 1), (1, .aload_n 1, 1), (2, .getfield 37, 3), (5, .putfield 37, 3), (8, .aload_n 0, 1), (9, .aload_n 1, 1), (10, .getfield 41, 3), (13, .putfield 41, 3), (16, .aload_n 0, 1), (17, .aload_n 1, 1), (18, .getfield 53, 3), (21, .putfield 53, 3), (24, .aload_n 0, 1), (25, .aload_n 1, 1), (26, .getfield 44, 3), (29, .putfield 44, 3), (32, .aload_n 1, 1), (33, .getfield 9, 3), (36, .iconst 0, 1), (37, .aload_n 0, 1), (38, .getfield 9, 3), (41, .iconst 0, 1), (42, .bipush 20, 2), (44, .invokestatic 56, 3), (47, .aload_n 1, 1), (48, .getfield 15, 3), (51, .iconst 0, 1), (52, .aload_n 0, 1), (53, .getfield 15, 3), (56, .iconst 0, 1), (57, .bipush 20, 2), (59, .invokestatic 56, 3), (62, .aload_n 1, 1), (63, .getfield 18, 3), (66, .iconst 0, 1), (67, .aload_n 0, 1), (68, .getfield 18, 3), (71, .iconst 0, 1), (72, .bipush 20, 2), (74, .invokestatic 56, 3), (77, .aload_n 1, 1), (78, .getfield 21, 3), (81, .iconst 0, 1), (82, .aload_n 0, 1), (83, .getfield 21, 3), (86, .iconst 0, 1), (87, .bipush 20, 2), (89, .invokestatic 56, 3), (92, .aload_n 1, 1), (93, .getfield 24, 3), (96, .iconst 0, 1), (97, .aload_n 0, 1), (98, .getfield 24, 3), (101, .iconst 0, 1), (102, .bipush 6, 2), (104, .invokestatic 56, 3), (107, .aload_n 1, 1), (108, .getfield 27, 3), (111, .iconst 0, 1), (112, .aload_n 0, 1), (113, .getfield 27, 3), (116, .iconst 0, 1), (117, .sipush 128, 3), (120, .invokestatic 56, 3), (123, .aload_n 1, 1), (124, .getfield 30, 3), (127, .iconst 0, 1), (128, .aload_n 0, 1), (129, .getfield 30, 3), (132, .iconst 0, 1), (133, .sipush 128, 3), (136, .invokestatic 56, 3), (139, .return_, 1)]
def mX0_copyFrom : a_Mth := (0, ⟨"BillWall$Bills", "copyFrom", "(LBillWall$Bills;)V"⟩, prog_2_method_3_code, 2, (Option.none : Option FieldType), 1, 26, (4, 170), ilX0_copyFrom)
def ilX0_has : a_IL := [(0, .iload_n 1, 1), (1, .ifCond .lt 15, 3), (4, .iload_n 1, 1), (5, .aload_n 0, 1), (6, .getfield 37, 3), (9, .if_icmp .ge 7, 3), (12, .iconst 1, 1), (13, .goto 4, 3), (16, .iconst 0, 1), (17, .ireturn, 1)]
def mX0_has : a_Mth := (0, ⟨"BillWall$Bills", "has", "(I)Z"⟩, prog_2_method_4_code, 2, (Option.some FieldType.boolean), 0, 0, (3, 205), ilX0_has)
def ilX0_isFull : a_IL := [(0, .aload_n 0, 1), (1, .getfield 37, 3), (4, .bipush 20, 2), (6, .if_icmp .lt 7, 3), (9, .iconst 1, 1), (10, .goto 4, 3), (13, .iconst 0, 1), (14, .ireturn, 1)]
def mX0_isFull : a_Mth := (0, ⟨"BillWall$Bills", "isFull", "()Z"⟩, prog_2_method_5_code, 1, (Option.some FieldType.boolean), 0, 0, (3, 128), ilX0_isFull)
def ilX0_isOn : a_IL := [(0, .aload_n 0, 1), (1, .getfield 44, 3), (4, .iload_n 1, 1), (5, .invokestatic 62, 3), (8, .ireturn, 1)]
def mX0_isOn : a_Mth := (0, ⟨"BillWall$Bills", "isOn", "(I)Z"⟩, prog_2_method_6_code, 2, (Option.some FieldType.boolean), 1, 21, (3, 220), ilX0_isOn)
def ilX0_ownerOf : a_IL := [(0, .aload_n 0, 1), (1, .getfield 33, 3), (4, .getfield 66, 3), (7, .aload_n 0, 1), (8, .getfield 9, 3), (11, .iload_n 1, 1), (12, .iaload, 1), (13, .iaload, 1), (14, .ireturn, 1)]
def mX0_ownerOf : a_Mth := (0, ⟨"BillWall$Bills", "ownerOf", "(I)I"⟩, prog_2_method_7_code, 2, (Option.some FieldType.int), 0, 0, (3, 165), ilX0_ownerOf)
def ilX0_allCells : a_IL := [(0, .aload_n 0, 1), (1, .getfield 33, 3), (4, .getfield 71, 3), (7, .aload_n 0, 1), (8, .getfield 9, 3), (11, .iload_n 1, 1), (12, .iaload, 1), (13, .iaload, 1), (14, .aload_n 0, 1), (15, .getfield 33, 3), (18, .getfield 74, 3), (21, .aload_n 0, 1), (22, .getfield 9, 3), (25, .iload_n 1, 1), (26, .iaload, 1), (27, .iaload, 1), (28, .imul, 1), (29, .ireturn, 1)]
def mX0_allCells : a_Mth := (0, ⟨"BillWall$Bills", "allCells", "(I)I"⟩, prog_2_method_8_code, 2, (Option.some FieldType.int), 0, 0, (3, 169), ilX0_allCells)
def ilX0_right : a_IL := [(0, .aload_n 0, 1), (1, .getfield 15, 3), (4, .iload_n 1, 1), (5, .iaload, 1), (6, .aload_n 0, 1), (7, .getfield 33, 3), (10, .getfield 71, 3), (13, .aload_n 0, 1), (14, .getfield 9, 3), (17, .iload_n 1, 1), (18, .iaload, 1), (19, .iaload, 1), (20, .iadd, 1), (21, .ireturn, 1)]
def mX0_right : a_Mth := (0, ⟨"BillWall$Bills", "right", "(I)I"⟩, prog_2_method_9_code, 2, (Option.some FieldType.int), 0, 0, (3, 186), ilX0_right)
def ilX0_bottom : a_IL := [(0, .aload_n 0, 1), (1, .getfield 18, 3), (4, .iload_n 1, 1), (5, .iaload, 1), (6, .aload_n 0, 1), (7, .getfield 33, 3), (10, .getfield 74, 3), (13, .aload_n 0, 1), (14, .getfield 9, 3), (17, .iload_n 1, 1), (18, .iaload, 1), (19, .iaload, 1), (20, .iadd, 1), (21, .ireturn, 1)]
def mX0_bottom : a_Mth := (0, ⟨"BillWall$Bills", "bottom", "(I)I"⟩, prog_2_method_10_code, 2, (Option.some FieldType.int), 0, 0, (3, 182), ilX0_bottom)
def ilX0_topAt : a_IL := [(0, .bipush 31, 2), (2, .aload_n 0, 1), (3, .getfield 27, 3), (6, .iload_n 1, 1), (7, .iaload, 1), (8, .invokestatic 77, 3), (11, .isub, 1), (12, .ireturn, 1)]
def mX0_topAt : a_Mth := (0, ⟨"BillWall$Bills", "topAt", "(I)I"⟩, prog_2_method_11_code, 2, (Option.some FieldType.int), 1, 21, (3, 140), ilX0_topAt)
def ilX0_hang : a_IL := [(0, .aload_n 0, 1), (1, .invokevirtual 83, 3), (4, .ifCond .eq 4, 3), (7, .return_, 1), (8, .aload_n 0, 1), (9, .getfield 37, 3), (12, .istore 4, 2), (14, .aload_n 0, 1), (15, .dup, 1), (16, .getfield 37, 3), (19, .iconst 1, 1), (20, .iadd, 1), (21, .putfield 37, 3), (24, .aload_n 0, 1), (25, .getfield 9, 3), (28, .iload 4, 2), (30, .iload_n 1, 1), (31, .iastore, 1), (32, .aload_n 0, 1), (33, .getfield 15, 3), (36, .iload 4, 2), (38, .iload_n 2, 1), (39, .iastore, 1), (40, .aload_n 0, 1), (41, .getfield 18, 3), (44, .iload 4, 2), (46, .iload_n 3, 1), (47, .iastore, 1), (48, .aload_n 0, 1), (49, .getfield 21, 3), (52, .iload 4, 2), (54, .aload_n 0, 1), (55, .getfield 41, 3), (58, .iastore, 1), (59, .aload_n 0, 1), (60, .dup, 1), (61, .getfield 44, 3), (64, .iconst 1, 1), (65, .iload 4, 2), (67, .ishl, 1), (68, .ior, 1), (69, .putfield 44, 3), (72, .iload_n 3, 1), (73, .istore 5, 2), (75, .iload 5, 2), (77, .aload_n 0, 1), (78, .iload 4, 2), (80, .invokevirtual 87, 3), (83, .if_icmp .ge 48, 3), (86, .iload_n 2, 1), (87, .istore 6, 2), (89, .iload 6, 2), (91, .aload_n 0, 1), (92, .iload 4, 2), (94, .invokevirtual 90, 3), (97, .if_icmp .ge 28, 3), (100, .aload_n 0, 1), (101, .getfield 27, 3), (104, .iload 6, 2), (106, .iload 5, 2), (108, .invokestatic 93, 3), (111, .dup2, 1), (112, .iaload, 1), (113, .iconst 1, 1), (114, .iload 4, 2), (116, .ishl, 1), (117, .ior, 1), (118, .iastore, 1), (119, .iinc 6 1, 3), (122, .goto (-33), 3), (125, .iinc 5 1, 3), (128, .goto (-53), 3), (131, .return_, 1)]
def mX0_hang : a_Mth := (0, ⟨"BillWall$Bills", "hang", "(III)V"⟩, prog_2_method_12_code, 7, (Option.none : Option FieldType), 1, 21, (3, 177), ilX0_hang)
def ilX0_takeOff : a_IL := [(0, .iconst 0, 1), (1, .istore_n 2, 1), (2, .aload_n 0, 1), (3, .getfield 18, 3), (6, .iload_n 1, 1), (7, .iaload, 1), (8, .istore_n 3, 1), (9, .iload_n 3, 1), (10, .aload_n 0, 1), (11, .iload_n 1, 1), (12, .invokevirtual 87, 3), (15, .if_icmp .ge 106, 3), (18, .aload_n 0, 1), (19, .getfield 15, 3), (22, .iload_n 1, 1), (23, .iaload, 1), (24, .istore 4, 2), (26, .iload 4, 2), (28, .aload_n 0, 1), (29, .iload_n 1, 1), (30, .invokevirtual 90, 3), (33, .if_icmp .ge 82, 3), (36, .iload 4, 2), (38, .iload_n 3, 1), (39, .invokestatic 93, 3), (42, .istore 5, 2), (44, .aload_n 0, 1), (45, .iload 5, 2), (47, .invokevirtual 97, 3), (50, .iload_n 1, 1), (51, .if_icmp .ne 7, 3), (54, .iconst 1, 1), (55, .goto 4, 3), (58, .iconst 0, 1), (59, .istore 6, 2), (61, .aload_n 0, 1), (62, .getfield 27, 3), (65, .iload 5, 2), (67, .dup2, 1), (68, .iaload, 1), (69, .iconst 1, 1), (70, .iload_n 1, 1), (71, .ishl, 1), (72, .iconst (-1), 1), (73, .ixor, 1), (74, .iand, 1), (75, .iastore, 1), (76, .aload_n 0, 1), (77, .getfield 30, 3), (80, .iload 5, 2), (82, .dup2, 1), (83, .iaload, 1), (84, .iconst 1, 1), (85, .iload_n 1, 1), (86, .ishl, 1), (87, .iconst (-1), 1), (88, .ixor, 1), (89, .iand, 1), (90, .iastore, 1), (91, .iload 6, 2), (93, .ifCond .eq 16, 3), (96, .aload_n 0, 1), (97, .iload 5, 2), (99, .invokevirtual 97, 3), (102, .iconst (-1), 1), (103, .if_icmp .eq 6, 3), (106, .iinc 2 1, 3), (109, .iinc 4 1, 3), (112, .goto (-86), 3), (115, .iinc 3 1, 3), (118, .goto (-109), 3), (121, .aload_n 0, 1), (122, .dup, 1), (123, .getfield 44, 3), (126, .iconst 1, 1), (127, .iload_n 1, 1), (128, .ishl, 1), (129, .iconst (-1), 1), (130, .ixor, 1), (131, .iand, 1), (132, .putfield 44, 3), (135, .iload_n 2, 1), (136, .ireturn, 1)]
def mX0_takeOff : a_Mth := (0, ⟨"BillWall$Bills", "takeOff", "(I)I"⟩, prog_2_method_13_code, 7, (Option.some FieldType.int), 2, 42, (4, 44), ilX0_takeOff)
def ilX0_undoHang : a_IL := [(0, .aload_n 0, 1), (1, .getfield 37, 3), (4, .ifCond .le 24, 3), (7, .aload_n 0, 1), (8, .aload_n 0, 1), (9, .getfield 37, 3), (12, .iconst 1, 1), (13, .isub, 1), (14, .invokevirtual 100, 3), (17, .pop, 1), (18, .aload_n 0, 1), (19, .dup, 1), (20, .getfield 37, 3), (23, .iconst 1, 1), (24, .isub, 1), (25, .putfield 37, 3), (28, .return_, 1)]
def mX0_undoHang : a_Mth := (0, ⟨"BillWall$Bills", "undoHang", "()V"⟩, prog_2_method_14_code, 1, (Option.none : Option FieldType), 3, 68, (4, 181), ilX0_undoHang)
def ilX0_tearTop : a_IL := [(0, .aload_n 0, 1), (1, .iload_n 1, 1), (2, .invokevirtual 97, 3), (5, .istore_n 2, 1), (6, .iload_n 2, 1), (7, .iconst (-1), 1), (8, .if_icmp .eq 29, 3), (11, .aload_n 0, 1), (12, .getfield 27, 3), (15, .iload_n 1, 1), (16, .dup2, 1), (17, .iaload, 1), (18, .iconst 1, 1), (19, .iload_n 2, 1), (20, .ishl, 1), (21, .iconst (-1), 1), (22, .ixor, 1), (23, .iand, 1), (24, .iastore, 1), (25, .aload_n 0, 1), (26, .getfield 30, 3), (29, .iload_n 1, 1), (30, .dup2, 1), (31, .iaload, 1), (32, .iconst 1, 1), (33, .iload_n 2, 1), (34, .ishl, 1), (35, .ior, 1), (36, .iastore, 1), (37, .iload_n 2, 1), (38, .ireturn, 1)]
def mX0_tearTop : a_Mth := (0, ⟨"BillWall$Bills", "tearTop", "(I)I"⟩, prog_2_method_15_code, 3, (Option.some FieldType.int), 2, 42, (4, 53), ilX0_tearTop)
def ilX0_loosen : a_IL := [(0, .iconst 0, 1), (1, .istore_n 2, 1), (2, .iconst 0, 1), (3, .istore_n 3, 1), (4, .iload_n 3, 1), (5, .aload_n 0, 1), (6, .getfield 33, 3), (9, .getfield 103, 3), (12, .if_icmp .ge 66, 3), (15, .iconst 0, 1), (16, .istore 4, 2), (18, .iload 4, 2), (20, .aload_n 0, 1), (21, .getfield 33, 3), (24, .getfield 105, 3), (27, .if_icmp .ge 45, 3), (30, .iload 4, 2), (32, .iload_n 3, 1), (33, .invokestatic 93, 3), (36, .istore 5, 2), (38, .aload_n 0, 1), (39, .iload 5, 2), (41, .invokevirtual 97, 3), (44, .iconst (-1), 1), (45, .if_icmp .eq 21, 3), (48, .aload_n 0, 1), (49, .invokevirtual 107, 3), (52, .iload_n 1, 1), (53, .if_icmp .ge 13, 3), (56, .aload_n 0, 1), (57, .iload 5, 2), (59, .invokevirtual 111, 3), (62, .pop, 1), (63, .iinc 2 1, 3), (66, .iinc 4 1, 3), (69, .goto (-51), 3), (72, .iinc 3 1, 3), (75, .goto (-71), 3), (78, .iload_n 2, 1), (79, .ireturn, 1)]
def mX0_loosen : a_Mth := (0, ⟨"BillWall$Bills", "loosen", "(I)I"⟩, prog_2_method_16_code, 6, (Option.some FieldType.int), 3, 64, (4, 61), ilX0_loosen)
def ilX0_drawOfHundred : a_IL := [(0, .aload_n 0, 1), (1, .aload_n 0, 1), (2, .getfield 53, 3), (5, .i2l, 1), (6, .ldc2_w 114, 3), (9, .lmul, 1), (10, .ldc2_w 116, 3), (13, .ladd, 1), (14, .ldc2_w 118, 3), (17, .lrem, 1), (18, .l2i, 1), (19, .putfield 53, 3), (22, .aload_n 0, 1), (23, .getfield 53, 3), (26, .ldc 120, 2), (28, .idiv, 1), (29, .bipush 100, 2), (31, .irem, 1), (32, .ireturn, 1)]
def mX0_drawOfHundred : a_Mth := (0, ⟨"BillWall$Bills", "drawOfHundred", "()I"⟩, prog_2_method_17_code, 1, (Option.some FieldType.int), 0, 0, (4, 65), ilX0_drawOfHundred)
def ilX0_tornCells : a_IL := [(0, .iconst 0, 1), (1, .istore_n 2, 1), (2, .aload_n 0, 1), (3, .getfield 18, 3), (6, .iload_n 1, 1), (7, .iaload, 1), (8, .istore_n 3, 1), (9, .iload_n 3, 1), (10, .aload_n 0, 1), (11, .iload_n 1, 1), (12, .invokevirtual 87, 3), (15, .if_icmp .ge 54, 3), (18, .aload_n 0, 1), (19, .getfield 15, 3), (22, .iload_n 1, 1), (23, .iaload, 1), (24, .istore 4, 2), (26, .iload 4, 2), (28, .aload_n 0, 1), (29, .iload_n 1, 1), (30, .invokevirtual 90, 3), (33, .if_icmp .ge 30, 3), (36, .aload_n 0, 1), (37, .getfield 30, 3), (40, .iload 4, 2), (42, .iload_n 3, 1), (43, .invokestatic 93, 3), (46, .iaload, 1), (47, .iload_n 1, 1), (48, .invokestatic 62, 3), (51, .ifCond .eq 6, 3), (54, .iinc 2 1, 3), (57, .iinc 4 1, 3), (60, .goto (-34), 3), (63, .iinc 3 1, 3), (66, .goto (-57), 3), (69, .iload_n 2, 1), (70, .ireturn, 1)]
def mX0_tornCells : a_Mth := (0, ⟨"BillWall$Bills", "tornCells", "(I)I"⟩, prog_2_method_18_code, 5, (Option.some FieldType.int), 1, 21, (3, 209), ilX0_tornCells)
def ilX0_hangingOf : a_IL := [(0, .iconst 0, 1), (1, .istore_n 2, 1), (2, .iconst 0, 1), (3, .istore_n 3, 1), (4, .iload_n 3, 1), (5, .aload_n 0, 1), (6, .getfield 37, 3), (9, .if_icmp .ge 29, 3), (12, .aload_n 0, 1), (13, .iload_n 3, 1), (14, .invokevirtual 121, 3), (17, .ifCond .eq 15, 3), (20, .aload_n 0, 1), (21, .iload_n 3, 1), (22, .invokevirtual 125, 3), (25, .iload_n 1, 1), (26, .if_icmp .ne 6, 3), (29, .iinc 2 1, 3), (32, .iinc 3 1, 3), (35, .goto (-31), 3), (38, .iload_n 2, 1), (39, .ireturn, 1)]
def mX0_hangingOf : a_Mth := (0, ⟨"BillWall$Bills", "hangingOf", "(I)I"⟩, prog_2_method_19_code, 4, (Option.some FieldType.int), 2, 42, (4, 83), ilX0_hangingOf)
def ilX0_coversOf : a_IL := [(0, .iconst 0, 1), (1, .istore_n 2, 1), (2, .aload_n 0, 1), (3, .getfield 18, 3), (6, .iload_n 1, 1), (7, .iaload, 1), (8, .istore_n 3, 1), (9, .iload_n 3, 1), (10, .aload_n 0, 1), (11, .iload_n 1, 1), (12, .invokevirtual 87, 3), (15, .if_icmp .ge 60, 3), (18, .aload_n 0, 1), (19, .getfield 15, 3), (22, .iload_n 1, 1), (23, .iaload, 1), (24, .istore 4, 2), (26, .iload 4, 2), (28, .aload_n 0, 1), (29, .iload_n 1, 1), (30, .invokevirtual 90, 3), (33, .if_icmp .ge 36, 3), (36, .aload_n 0, 1), (37, .getfield 27, 3), (40, .iload 4, 2), (42, .iload_n 3, 1), (43, .invokestatic 93, 3), (46, .iaload, 1), (47, .istore 5, 2), (49, .iload 5, 2), (51, .iload_n 1, 1), (52, .invokestatic 62, 3), (55, .ifCond .eq 8, 3), (58, .iload_n 2, 1), (59, .iload 5, 2), (61, .ior, 1), (62, .istore_n 2, 1), (63, .iinc 4 1, 3), (66, .goto (-40), 3), (69, .iinc 3 1, 3), (72, .goto (-63), 3), (75, .iload_n 2, 1), (76, .iload_n 1, 1), (77, .invokestatic 128, 3), (80, .ireturn, 1)]
def mX0_coversOf : a_Mth := (0, ⟨"BillWall$Bills", "coversOf", "(I)I"⟩, prog_2_method_20_code, 6, (Option.some FieldType.int), 1, 21, (3, 228), ilX0_coversOf)
def ilX0_toFree : a_IL := [(0, .aload_n 0, 1), (1, .iload_n 1, 1), (2, .invokevirtual 131, 3), (5, .istore_n 2, 1), (6, .iload_n 1, 1), (7, .iconst 1, 1), (8, .iadd, 1), (9, .istore_n 3, 1), (10, .iload_n 3, 1), (11, .aload_n 0, 1), (12, .getfield 37, 3), (15, .if_icmp .ge 25, 3), (18, .iload_n 2, 1), (19, .iload_n 3, 1), (20, .invokestatic 62, 3), (23, .ifCond .eq 11, 3), (26, .iload_n 2, 1), (27, .aload_n 0, 1), (28, .iload_n 3, 1), (29, .invokevirtual 131, 3), (32, .ior, 1), (33, .istore_n 2, 1), (34, .iinc 3 1, 3), (37, .goto (-27), 3), (40, .iload_n 2, 1), (41, .ireturn, 1)]
def mX0_toFree : a_Mth := (0, ⟨"BillWall$Bills", "toFree", "(I)I"⟩, prog_2_method_21_code, 4, (Option.some FieldType.int), 2, 46, (3, 239), ilX0_toFree)
def ilX0_laterThan : a_IL := [(0, .iload_n 0, 1), (1, .iload_n 1, 1), (2, .iconst 1, 1), (3, .iadd, 1), (4, .ishr, 1), (5, .iload_n 1, 1), (6, .iconst 1, 1), (7, .iadd, 1), (8, .ishl, 1), (9, .ireturn, 1)]
def mX0_laterThan : a_Mth := (0, ⟨"BillWall$Bills", "laterThan", "(II)I"⟩, prog_2_method_22_code, 2, (Option.some FieldType.int), 0, 0, (3, 231), ilX0_laterThan)
def ilX1_init : a_IL := [(0, .aload_n 0, 1), (1, .invokespecial 1, 3), (4, .aload_n 0, 1), (5, .new 7, 3), (8, .dup, 1), (9, .aload_n 1, 1), (10, .invokespecial 9, 3), (13, .putfield 12, 3), (16, .return_, 1)]
def mX1_init : a_Mth := (1, ⟨"BillWall$Image", "<init>", "(LBillWall$Plan;)V"⟩, prog_3_method_1_code, 2, (Option.none : Option FieldType), 2, 41, (1, 215), ilX1_init)
def ilX2_init : a_IL := [(0, .aload_n 0, 1), (1, .invokespecial 3, 3), (4, .aload_n 0, 1), (5, .bipush 20, 2), (7, .newarray .int, 2), (9, .putfield 9, 3), (12, .aload_n 0, 1), (13, .sipush 128, 3), (16, .newarray .int, 2), (18, .putfield 15, 3), (21, .aload_n 0, 1), (22, .aload_n 1, 1), (23, .putfield 18, 3), (26, .return_, 1)]
def mX2_init : a_Mth := (2, ⟨"BillWall$Lifting", "<init>", "(LBillWall$Plan;)V"⟩, prog_4_method_1_code, 2, (Option.none : Option FieldType), 1, 20, (2, 25), ilX2_init)
def ilX2_toRead : a_IL := [(0, .aload_n 0, 1), (1, .aload_n 1, 1), (2, .iload_n 2, 1), (3, .invokevirtual 22, 3), (6, .aload_n 1, 1), (7, .iload_n 2, 1), (8, .invokevirtual 26, 3), (11, .istore_n 3, 1), (12, .aload_n 1, 1), (13, .iload_n 2, 1), (14, .invokevirtual 32, 3), (17, .istore 4, 2), (19, .iconst (-1), 1), (20, .istore 5, 2), (22, .bipush 21, 2), (24, .istore 6, 2), (26, .iconst 0, 1), (27, .istore 7, 2), (29, .iconst 1, 1), (30, .iload 4, 2), (32, .invokestatic 35, 3), (35, .ishl, 1), (36, .istore 8, 2), (38, .iconst 0, 1), (39, .istore 9, 2), (41, .iload 9, 2), (43, .iload 8, 2), (45, .if_icmp .ge 68, 3), (48, .iload 7, 2), (50, .invokestatic 35, 3), (53, .istore 10, 2), (55, .iload 10, 2), (57, .iload 6, 2), (59, .if_icmp .ge 38, 3), (62, .aload_n 0, 1), (63, .aload_n 1, 1), (64, .iload 7, 2), (66, .invokevirtual 40, 3), (69, .ifCond .eq 28, 3), (72, .aload_n 0, 1), (73, .getfield 18, 3), (76, .aload_n 0, 1), (77, .iload 7, 2), (79, .invokevirtual 44, 3), (82, .iload_n 3, 1), (83, .invokevirtual 47, 3), (86, .ifCond .eq 11, 3), (89, .iload 10, 2), (91, .istore 6, 2), (93, .iload 7, 2), (95, .istore 5, 2), (97, .iload 7, 2), (99, .iload 4, 2), (101, .isub, 1), (102, .iload 4, 2), (104, .iand, 1), (105, .istore 7, 2), (107, .iinc 9 1, 3), (110, .goto (-69), 3), (113, .iload 5, 2), (115, .ireturn, 1)]
def mX2_toRead : a_Mth := (2, ⟨"BillWall$Lifting", "toRead", "(LBillWall$Bills;I)I"⟩, prog_4_method_2_code, 11, (Option.some FieldType.int), 3, 71, (4, 14), ilX2_toRead)
def ilX2_lookUnder : a_IL := [(0, .iconst 0, 1), (1, .istore_n 3, 1), (2, .iload_n 3, 1), (3, .aload_n 1, 1), (4, .getfield 53, 3), (7, .if_icmp .ge 20, 3), (10, .aload_n 0, 1), (11, .getfield 9, 3), (14, .iload_n 3, 1), (15, .aload_n 1, 1), (16, .iload_n 3, 1), (17, .invokevirtual 57, 3), (20, .iastore, 1), (21, .iinc 3 1, 3), (24, .goto (-22), 3), (27, .aload_n 0, 1), (28, .iconst 0, 1), (29, .putfield 60, 3), (32, .aload_n 1, 1), (33, .getfield 63, 3), (36, .iload_n 2, 1), (37, .iaload, 1), (38, .istore_n 3, 1), (39, .iload_n 3, 1), (40, .aload_n 1, 1), (41, .iload_n 2, 1), (42, .invokevirtual 66, 3), (45, .if_icmp .ge 80, 3), (48, .aload_n 1, 1), (49, .getfield 69, 3), (52, .iload_n 2, 1), (53, .iaload, 1), (54, .istore 4, 2), (56, .iload 4, 2), (58, .aload_n 1, 1), (59, .iload_n 2, 1), (60, .invokevirtual 72, 3), (63, .if_icmp .ge 56, 3), (66, .aload_n 1, 1), (67, .getfield 75, 3), (70, .iload 4, 2), (72, .iload_n 3, 1), (73, .invokestatic 78, 3), (76, .iaload, 1), (77, .istore 5, 2), (79, .iload 5, 2), (81, .iload_n 2, 1), (82, .invokestatic 82, 3), (85, .ifCond .eq 28, 3), (88, .aload_n 0, 1), (89, .getfield 15, 3), (92, .aload_n 0, 1), (93, .getfield 60, 3), (96, .iload 5, 2), (98, .iload_n 2, 1), (99, .invokestatic 85, 3), (102, .iastore, 1), (103, .aload_n 0, 1), (104, .dup, 1), (105, .getfield 60, 3), (108, .iconst 1, 1), (109, .iadd, 1), (110, .putfield 60, 3), (113, .iinc 4 1, 3), (116, .goto (-60), 3), (119, .iinc 3 1, 3), (122, .goto (-83), 3), (125, .return_, 1)]
def mX2_lookUnder : a_Mth := (2, ⟨"BillWall$Lifting", "lookUnder", "(LBillWall$Bills;I)V"⟩, prog_4_method_3_code, 6, (Option.none : Option FieldType), 2, 46, (4, 18), ilX2_lookUnder)
def ilX2_isLiftable : a_IL := [(0, .iconst 0, 1), (1, .istore_n 3, 1), (2, .iload_n 3, 1), (3, .aload_n 1, 1), (4, .getfield 53, 3), (7, .if_icmp .ge 32, 3), (10, .iload_n 2, 1), (11, .iload_n 3, 1), (12, .invokestatic 82, 3), (15, .ifCond .eq 18, 3), (18, .aload_n 0, 1), (19, .getfield 9, 3), (22, .iload_n 3, 1), (23, .iaload, 1), (24, .iload_n 2, 1), (25, .iconst (-1), 1), (26, .ixor, 1), (27, .iand, 1), (28, .ifCond .eq 5, 3), (31, .iconst 0, 1), (32, .ireturn, 1), (33, .iinc 3 1, 3), (36, .goto (-34), 3), (39, .iconst 1, 1), (40, .ireturn, 1)]
def mX2_isLiftable : a_Mth := (2, ⟨"BillWall$Lifting", "isLiftable", "(LBillWall$Bills;I)Z"⟩, prog_4_method_4_code, 4, (Option.some FieldType.boolean), 1, 21, (4, 31), ilX2_isLiftable)
def ilX2_seenWithout : a_IL := [(0, .iconst 0, 1), (1, .istore_n 2, 1), (2, .iconst 0, 1), (3, .istore_n 3, 1), (4, .iload_n 3, 1), (5, .aload_n 0, 1), (6, .getfield 60, 3), (9, .if_icmp .ge 25, 3), (12, .aload_n 0, 1), (13, .getfield 15, 3), (16, .iload_n 3, 1), (17, .iaload, 1), (18, .iload_n 1, 1), (19, .iconst (-1), 1), (20, .ixor, 1), (21, .iand, 1), (22, .ifCond .ne 6, 3), (25, .iinc 2 1, 3), (28, .iinc 3 1, 3), (31, .goto (-27), 3), (34, .iload_n 2, 1), (35, .ireturn, 1)]
def mX2_seenWithout : a_Mth := (2, ⟨"BillWall$Lifting", "seenWithout", "(I)I"⟩, prog_4_method_5_code, 4, (Option.some FieldType.int), 0, 0, (4, 35), ilX2_seenWithout)
def ilX3_init : a_IL := [(0, .aload_n 0, 1), (1, .invokespecial 3, 3), (4, .aload_n 0, 1), (5, .sipush 128, 3), (8, .newarray .int, 2), (10, .putfield 9, 3), (13, .aload_n 0, 1), (14, .sipush 128, 3), (17, .newarray .int, 2), (19, .putfield 15, 3), (22, .aload_n 0, 1), (23, .bipush 10, 2), (25, .newarray .int, 2), (27, .putfield 18, 3), (30, .aload_n 0, 1), (31, .bipush 10, 2), (33, .newarray .int, 2), (35, .putfield 21, 3), (38, .aload_n 0, 1), (39, .sipush 1024, 3), (42, .newarray .int, 2), (44, .putfield 24, 3), (47, .aload_n 0, 1), (48, .aload_n 1, 1), (49, .putfield 27, 3), (52, .aload_n 0, 1), (53, .invokevirtual 31, 3), (56, .return_, 1)]
def mX3_init : a_Mth := (3, ⟨"BillWall$Photograph", "<init>", "(LBillWall$Plan;)V"⟩, prog_5_method_1_code, 2, (Option.none : Option FieldType), 2, 43, (2, 95), ilX3_init)
def ilX3_forget : a_IL := [(0, .aload_n 0, 1), (1, .iconst 0, 1), (2, .putfield 34, 3), (5, .aload_n 0, 1), (6, .getfield 9, 3), (9, .iconst 0, 1), (10, .invokestatic 38, 3), (13, .aload_n 0, 1), (14, .getfield 15, 3), (17, .bipush (-2), 2), (19, .invokestatic 38, 3), (22, .return_, 1)]
def mX3_forget : a_Mth := (3, ⟨"BillWall$Photograph", "forget", "()V"⟩, prog_5_method_2_code, 1, (Option.none : Option FieldType), 1, 23, (2, 100), ilX3_forget)
def ilX3_has : a_IL := [(0, .iload_n 1, 1), (1, .ifCond .lt 15, 3), (4, .iload_n 1, 1), (5, .aload_n 0, 1), (6, .getfield 34, 3), (9, .if_icmp .ge 7, 3), (12, .iconst 1, 1), (13, .goto 4, 3), (16, .iconst 0, 1), (17, .ireturn, 1)]
def mX3_has : a_Mth := (3, ⟨"BillWall$Photograph", "has", "(I)Z"⟩, prog_5_method_3_code, 2, (Option.some FieldType.boolean), 0, 0, (4, 102), ilX3_has)
def ilX3_add : a_IL := [(0, .aload_n 0, 1), (1, .getfield 34, 3), (4, .bipush 10, 2), (6, .if_icmp .lt 4, 3), (9, .return_, 1), (10, .iload_n 3, 1), (11, .istore 4, 2), (13, .iload 4, 2), (15, .iload_n 3, 1), (16, .aload_n 0, 1), (17, .getfield 27, 3), (20, .getfield 44, 3), (23, .iload_n 1, 1), (24, .iaload, 1), (25, .iadd, 1), (26, .if_icmp .ge 55, 3), (29, .iload_n 2, 1), (30, .istore 5, 2), (32, .iload 5, 2), (34, .iload_n 2, 1), (35, .aload_n 0, 1), (36, .getfield 27, 3), (39, .getfield 49, 3), (42, .iload_n 1, 1), (43, .iaload, 1), (44, .iadd, 1), (45, .if_icmp .ge 30, 3), (48, .aload_n 0, 1), (49, .getfield 9, 3), (52, .iload 5, 2), (54, .iload 4, 2), (56, .invokestatic 52, 3), (59, .dup2, 1), (60, .iaload, 1), (61, .iconst 1, 1), (62, .aload_n 0, 1), (63, .getfield 34, 3), (66, .ishl, 1), (67, .ior, 1), (68, .iastore, 1), (69, .iinc 5 1, 3), (72, .goto (-40), 3), (75, .iinc 4 1, 3), (78, .goto (-65), 3), (81, .aload_n 0, 1), (82, .dup, 1), (83, .getfield 34, 3), (86, .iconst 1, 1), (87, .iadd, 1), (88, .putfield 34, 3), (91, .return_, 1)]
def mX3_add : a_Mth := (3, ⟨"BillWall$Photograph", "add", "(III)V"⟩, prog_5_method_4_code, 6, (Option.none : Option FieldType), 1, 21, (4, 93), ilX3_add)
def ilX3_countOrders : a_IL := [(0, .aload_n 0, 1), (1, .invokevirtual 56, 3), (4, .ifCond .ne 5, 3), (7, .iconst 0, 1), (8, .ireturn, 1), (9, .iconst 1, 1), (10, .aload_n 0, 1), (11, .getfield 34, 3), (14, .ishl, 1), (15, .istore_n 1, 1), (16, .aload_n 0, 1), (17, .getfield 24, 3), (20, .iconst 0, 1), (21, .iconst 1, 1), (22, .iastore, 1), (23, .iconst 1, 1), (24, .istore_n 2, 1), (25, .iload_n 2, 1), (26, .iload_n 1, 1), (27, .if_icmp .ge 77, 3), (30, .aload_n 0, 1), (31, .getfield 24, 3), (34, .iload_n 2, 1), (35, .iconst 0, 1), (36, .iastore, 1), (37, .iconst 0, 1), (38, .istore_n 3, 1), (39, .iload_n 3, 1), (40, .aload_n 0, 1), (41, .getfield 34, 3), (44, .if_icmp .ge 54, 3), (47, .iload_n 2, 1), (48, .iconst 1, 1), (49, .iload_n 3, 1), (50, .ishl, 1), (51, .iconst (-1), 1), (52, .ixor, 1), (53, .iand, 1), (54, .istore 4, 2), (56, .iload 4, 2), (58, .iload_n 2, 1), (59, .if_icmp .eq 33, 3), (62, .aload_n 0, 1), (63, .getfield 18, 3), (66, .iload_n 3, 1), (67, .iaload, 1), (68, .iload 4, 2), (70, .iconst (-1), 1), (71, .ixor, 1), (72, .iand, 1), (73, .ifCond .ne 19, 3), (76, .aload_n 0, 1), (77, .getfield 24, 3), (80, .iload_n 2, 1), (81, .dup2, 1), (82, .iaload, 1), (83, .aload_n 0, 1), (84, .getfield 24, 3), (87, .iload 4, 2), (89, .iaload, 1), (90, .iadd, 1), (91, .iastore, 1), (92, .iinc 3 1, 3), (95, .goto (-56), 3), (98, .iinc 2 1, 3), (101, .goto (-76), 3), (104, .aload_n 0, 1), (105, .getfield 24, 3), (108, .iload_n 1, 1), (109, .iconst 1, 1), (110, .isub, 1), (111, .iaload, 1), (112, .ireturn, 1)]
def mX3_countOrders : a_Mth := (3, ⟨"BillWall$Photograph", "countOrders", "()I"⟩, prog_5_method_5_code, 5, (Option.some FieldType.int), 2, 45, (4, 114), ilX3_countOrders)
def ilX3_firstOrderAt : a_IL := [(0, .iload_n 1, 1), (1, .aload_n 0, 1), (2, .getfield 34, 3), (5, .if_icmp .ge 19, 3), (8, .aload_n 0, 1), (9, .invokevirtual 60, 3), (12, .ifCond .eq 12, 3), (15, .aload_n 0, 1), (16, .getfield 21, 3), (19, .iload_n 1, 1), (20, .iaload, 1), (21, .goto 4, 3), (24, .iconst (-1), 1), (25, .ireturn, 1)]
def mX3_firstOrderAt : a_Mth := (3, ⟨"BillWall$Photograph", "firstOrderAt", "(I)I"⟩, prog_5_method_6_code, 2, (Option.some FieldType.int), 3, 68, (4, 127), ilX3_firstOrderAt)
def ilX3_liesOver : a_IL := [(0, .aload_n 0, 1), (1, .invokevirtual 60, 3), (4, .ifCond .ne 5, 3), (7, .iconst 0, 1), (8, .ireturn, 1), (9, .aload_n 0, 1), (10, .getfield 18, 3), (13, .iload_n 1, 1), (14, .iaload, 1), (15, .istore_n 3, 1), (16, .aload_n 0, 1), (17, .getfield 34, 3), (20, .iconst 1, 1), (21, .isub, 1), (22, .istore 4, 2), (24, .iload 4, 2), (26, .ifCond .lt 38, 3), (29, .iload_n 3, 1), (30, .aload_n 0, 1), (31, .getfield 21, 3), (34, .iload 4, 2), (36, .iaload, 1), (37, .invokestatic 63, 3), (40, .ifCond .eq 18, 3), (43, .iload_n 3, 1), (44, .aload_n 0, 1), (45, .getfield 18, 3), (48, .aload_n 0, 1), (49, .getfield 21, 3), (52, .iload 4, 2), (54, .iaload, 1), (55, .iaload, 1), (56, .ior, 1), (57, .istore_n 3, 1), (58, .iinc 4 (-1), 3), (61, .goto (-37), 3), (64, .iload_n 3, 1), (65, .iload_n 2, 1), (66, .invokestatic 63, 3), (69, .ireturn, 1)]
def mX3_liesOver : a_Mth := (3, ⟨"BillWall$Photograph", "liesOver", "(II)Z"⟩, prog_5_method_7_code, 5, (Option.some FieldType.boolean), 3, 68, (4, 143), ilX3_liesOver)
def ilX3_hasOrder : a_IL := [(0, .aload_n 0, 1), (1, .invokevirtual 56, 3), (4, .ifCond .ne 5, 3), (7, .iconst 0, 1), (8, .ireturn, 1), (9, .iconst 0, 1), (10, .istore_n 1, 1), (11, .iconst 0, 1), (12, .istore_n 2, 1), (13, .iload_n 2, 1), (14, .aload_n 0, 1), (15, .getfield 34, 3), (18, .if_icmp .ge 35, 3), (21, .aload_n 0, 1), (22, .iload_n 1, 1), (23, .invokevirtual 67, 3), (26, .istore_n 3, 1), (27, .iload_n 3, 1), (28, .iconst (-1), 1), (29, .if_icmp .ne 5, 3), (32, .iconst 0, 1), (33, .ireturn, 1), (34, .aload_n 0, 1), (35, .getfield 21, 3), (38, .iload_n 2, 1), (39, .iload_n 3, 1), (40, .iastore, 1), (41, .iload_n 1, 1), (42, .iconst 1, 1), (43, .iload_n 3, 1), (44, .ishl, 1), (45, .ior, 1), (46, .istore_n 1, 1), (47, .iinc 2 1, 3), (50, .goto (-37), 3), (53, .iconst 1, 1), (54, .ireturn, 1)]
def mX3_hasOrder : a_Mth := (3, ⟨"BillWall$Photograph", "hasOrder", "()Z"⟩, prog_5_method_8_code, 4, (Option.some FieldType.boolean), 2, 45, (4, 131), ilX3_hasOrder)
def ilX3_leastThatCanStand : a_IL := [(0, .iconst 0, 1), (1, .istore_n 2, 1), (2, .iload_n 2, 1), (3, .aload_n 0, 1), (4, .getfield 34, 3), (7, .if_icmp .ge 32, 3), (10, .iload_n 1, 1), (11, .iload_n 2, 1), (12, .invokestatic 63, 3), (15, .ifCond .ne 18, 3), (18, .aload_n 0, 1), (19, .getfield 18, 3), (22, .iload_n 2, 1), (23, .iaload, 1), (24, .iload_n 1, 1), (25, .iconst (-1), 1), (26, .ixor, 1), (27, .iand, 1), (28, .ifCond .ne 5, 3), (31, .iload_n 2, 1), (32, .ireturn, 1), (33, .iinc 2 1, 3), (36, .goto (-34), 3), (39, .iconst (-1), 1), (40, .ireturn, 1)]
def mX3_leastThatCanStand : a_Mth := (3, ⟨"BillWall$Photograph", "leastThatCanStand", "(I)I"⟩, prog_5_method_9_code, 3, (Option.some FieldType.int), 1, 21, (4, 135), ilX3_leastThatCanStand)
def ilX3_relate : a_IL := [(0, .aload_n 0, 1), (1, .getfield 18, 3), (4, .iconst 0, 1), (5, .invokestatic 38, 3), (8, .iconst 0, 1), (9, .istore_n 1, 1), (10, .iload_n 1, 1), (11, .sipush 128, 3), (14, .if_icmp .ge 74, 3), (17, .aload_n 0, 1), (18, .getfield 15, 3), (21, .iload_n 1, 1), (22, .iaload, 1), (23, .istore_n 2, 1), (24, .iload_n 2, 1), (25, .iconst (-1), 1), (26, .if_icmp .ne 12, 3), (29, .aload_n 0, 1), (30, .getfield 9, 3), (33, .iload_n 1, 1), (34, .iaload, 1), (35, .ifCond .ne 20, 3), (38, .iload_n 2, 1), (39, .ifCond .lt 18, 3), (42, .aload_n 0, 1), (43, .getfield 9, 3), (46, .iload_n 1, 1), (47, .iaload, 1), (48, .iload_n 2, 1), (49, .invokestatic 63, 3), (52, .ifCond .ne 5, 3), (55, .iconst 0, 1), (56, .ireturn, 1), (57, .iload_n 2, 1), (58, .ifCond .lt 24, 3), (61, .aload_n 0, 1), (62, .getfield 18, 3), (65, .iload_n 2, 1), (66, .dup2, 1), (67, .iaload, 1), (68, .aload_n 0, 1), (69, .getfield 9, 3), (72, .iload_n 1, 1), (73, .iaload, 1), (74, .iconst 1, 1), (75, .iload_n 2, 1), (76, .ishl, 1), (77, .iconst (-1), 1), (78, .ixor, 1), (79, .iand, 1), (80, .ior, 1), (81, .iastore, 1), (82, .iinc 1 1, 3), (85, .goto (-75), 3), (88, .iconst 1, 1), (89, .ireturn, 1)]
def mX3_relate : a_Mth := (3, ⟨"BillWall$Photograph", "relate", "()Z"⟩, prog_5_method_10_code, 3, (Option.some FieldType.boolean), 1, 23, (4, 118), ilX3_relate)
def ilX4_init : a_IL := [(0, .aload_n 0, 1), (1, .invokespecial 1, 3), (4, .aload_n 0, 1), (5, .aload_n 1, 1), (6, .putfield 7, 3), (9, .aload_n 0, 1), (10, .new 13, 3), (13, .dup, 1), (14, .aload_n 1, 1), (15, .invokespecial 15, 3), (18, .putfield 18, 3), (21, .aload_n 0, 1), (22, .new 22, 3), (25, .dup, 1), (26, .aload_n 1, 1), (27, .invokespecial 24, 3), (30, .putfield 25, 3), (33, .aload_n 0, 1), (34, .new 22, 3), (37, .dup, 1), (38, .aload_n 1, 1), (39, .invokespecial 24, 3), (42, .putfield 29, 3), (45, .return_, 1)]
def mX4_init : a_Mth := (4, ⟨"BillWall$Places", "<init>", "(LBillWall$Plan;)V"⟩, prog_6_method_1_code, 2, (Option.none : Option FieldType), 2, 41, (2, 44), ilX4_init)
def ilX4_findOne : a_IL := [(0, .aload_n 0, 1), (1, .iconst 0, 1), (2, .putfield 32, 3), (5, .aload_n 0, 1), (6, .getfield 25, 3), (9, .aload_n 1, 1), (10, .invokevirtual 36, 3), (13, .iconst 0, 1), (14, .istore_n 3, 1), (15, .iload_n 3, 1), (16, .aload_n 0, 1), (17, .getfield 7, 3), (20, .getfield 40, 3), (23, .aload_n 0, 1), (24, .getfield 7, 3), (27, .getfield 46, 3), (30, .iload_n 2, 1), (31, .iaload, 1), (32, .isub, 1), (33, .if_icmp .gt 91, 3), (36, .iconst 0, 1), (37, .istore 4, 2), (39, .iload 4, 2), (41, .aload_n 0, 1), (42, .getfield 7, 3), (45, .getfield 50, 3), (48, .aload_n 0, 1), (49, .getfield 7, 3), (52, .getfield 53, 3), (55, .iload_n 2, 1), (56, .iaload, 1), (57, .isub, 1), (58, .if_icmp .gt 60, 3), (61, .aload_n 0, 1), (62, .getfield 7, 3), (65, .iload_n 2, 1), (66, .iload 4, 2), (68, .iload_n 3, 1), (69, .invokevirtual 56, 3), (72, .ifCond .ne 40, 3), (75, .aload_n 0, 1), (76, .getfield 25, 3), (79, .aload_n 1, 1), (80, .iload_n 2, 1), (81, .iload 4, 2), (83, .iload_n 3, 1), (84, .invokevirtual 60, 3), (87, .aload_n 0, 1), (88, .aload_n 0, 1), (89, .getfield 25, 3), (92, .getfield 64, 3), (95, .invokevirtual 67, 3), (98, .ifCond .eq 14, 3), (101, .aload_n 0, 1), (102, .iload 4, 2), (104, .putfield 71, 3), (107, .aload_n 0, 1), (108, .iload_n 3, 1), (109, .putfield 74, 3), (112, .iinc 4 1, 3), (115, .goto (-76), 3), (118, .iinc 3 1, 3), (121, .goto (-106), 3), (124, .return_, 1)]
def mX4_findOne : a_Mth := (4, ⟨"BillWall$Places", "findOne", "(LBillWall$Bills;I)V"⟩, prog_6_method_2_code, 5, (Option.none : Option FieldType), 3, 76, (4, 151), ilX4_findOne)
def ilX4_findTwo : a_IL := [(0, .aload_n 0, 1), (1, .iconst 0, 1), (2, .putfield 32, 3), (5, .aload_n 0, 1), (6, .getfield 25, 3), (9, .aload_n 1, 1), (10, .invokevirtual 36, 3), (13, .aload_n 0, 1), (14, .getfield 18, 3), (17, .aload_n 1, 1), (18, .invokevirtual 77, 3), (21, .iconst 0, 1), (22, .istore 4, 2), (24, .iload 4, 2), (26, .aload_n 0, 1), (27, .getfield 7, 3), (30, .getfield 40, 3), (33, .aload_n 0, 1), (34, .getfield 7, 3), (37, .getfield 46, 3), (40, .iload_n 2, 1), (41, .iaload, 1), (42, .isub, 1), (43, .if_icmp .gt 103, 3), (46, .iconst 0, 1), (47, .istore 5, 2), (49, .iload 5, 2), (51, .aload_n 0, 1), (52, .getfield 7, 3), (55, .getfield 50, 3), (58, .aload_n 0, 1), (59, .getfield 7, 3), (62, .getfield 53, 3), (65, .iload_n 2, 1), (66, .iaload, 1), (67, .isub, 1), (68, .if_icmp .gt 72, 3), (71, .aload_n 0, 1), (72, .getfield 7, 3), (75, .iload_n 2, 1), (76, .iload 5, 2), (78, .iload 4, 2), (80, .invokevirtual 56, 3), (83, .ifCond .ne 51, 3), (86, .aload_n 0, 1), (87, .getfield 25, 3), (90, .aload_n 1, 1), (91, .iload_n 2, 1), (92, .iload 5, 2), (94, .iload 4, 2), (96, .invokevirtual 60, 3), (99, .aload_n 0, 1), (100, .getfield 18, 3), (103, .iload_n 2, 1), (104, .iload 5, 2), (106, .iload 4, 2), (108, .invokevirtual 80, 3), (111, .aload_n 0, 1), (112, .iload 5, 2), (114, .iload 4, 2), (116, .aload_n 0, 1), (117, .getfield 25, 3), (120, .getfield 64, 3), (123, .iload_n 3, 1), (124, .invokevirtual 84, 3), (127, .aload_n 0, 1), (128, .getfield 18, 3), (131, .invokevirtual 88, 3), (134, .iinc 5 1, 3), (137, .goto (-88), 3), (140, .iinc 4 1, 3), (143, .goto (-119), 3), (146, .return_, 1)]
def mX4_findTwo : a_Mth := (4, ⟨"BillWall$Places", "findTwo", "(LBillWall$Bills;II)V"⟩, prog_6_method_3_code, 6, (Option.none : Option FieldType), 4, 103, (4, 166), ilX4_findTwo)
def ilX4_findSecond : a_IL := [(0, .aload_n 0, 1), (1, .getfield 29, 3), (4, .aload_n 0, 1), (5, .getfield 18, 3), (8, .invokevirtual 36, 3), (11, .iconst 0, 1), (12, .istore 5, 2), (14, .iload 5, 2), (16, .aload_n 0, 1), (17, .getfield 7, 3), (20, .getfield 40, 3), (23, .aload_n 0, 1), (24, .getfield 7, 3), (27, .getfield 46, 3), (30, .iload 4, 2), (32, .iaload, 1), (33, .isub, 1), (34, .if_icmp .gt 151, 3), (37, .iconst 0, 1), (38, .istore 6, 2), (40, .iload 6, 2), (42, .aload_n 0, 1), (43, .getfield 7, 3), (46, .getfield 50, 3), (49, .aload_n 0, 1), (50, .getfield 7, 3), (53, .getfield 53, 3), (56, .iload 4, 2), (58, .iaload, 1), (59, .isub, 1), (60, .if_icmp .gt 119, 3), (63, .aload_n 0, 1), (64, .getfield 32, 3), (67, .ifCond .eq 23, 3), (70, .iload_n 3, 1), (71, .aload_n 0, 1), (72, .getfield 7, 3), (75, .iload 4, 2), (77, .iload 6, 2), (79, .invokevirtual 91, 3), (82, .iadd, 1), (83, .aload_n 0, 1), (84, .getfield 95, 3), (87, .if_icmp .le 7, 3), (90, .iconst 1, 1), (91, .goto 4, 3), (94, .iconst 0, 1), (95, .istore 7, 2), (97, .iload 7, 2), (99, .ifCond .eq 74, 3), (102, .aload_n 0, 1), (103, .getfield 7, 3), (106, .iload 4, 2), (108, .iload 6, 2), (110, .iload 5, 2), (112, .invokevirtual 56, 3), (115, .ifCond .ne 58, 3), (118, .aload_n 0, 1), (119, .getfield 29, 3), (122, .aload_n 0, 1), (123, .getfield 18, 3), (126, .iload 4, 2), (128, .iload 6, 2), (130, .iload 5, 2), (132, .invokevirtual 60, 3), (135, .aload_n 0, 1), (136, .iload_n 3, 1), (137, .aload_n 0, 1), (138, .getfield 29, 3), (141, .getfield 64, 3), (144, .iadd, 1), (145, .invokevirtual 67, 3), (148, .ifCond .eq 25, 3), (151, .aload_n 0, 1), (152, .iload_n 1, 1), (153, .putfield 71, 3), (156, .aload_n 0, 1), (157, .iload_n 2, 1), (158, .putfield 74, 3), (161, .aload_n 0, 1), (162, .iload 6, 2), (164, .putfield 96, 3), (167, .aload_n 0, 1), (168, .iload 5, 2), (170, .putfield 99, 3), (173, .iinc 6 1, 3), (176, .goto (-136), 3), (179, .iinc 5 1, 3), (182, .goto (-168), 3), (185, .return_, 1)]
def mX4_findSecond : a_Mth := (4, ⟨"BillWall$Places", "findSecond", "(IIII)V"⟩, prog_6_method_4_code, 8, (Option.none : Option FieldType), 3, 76, (4, 176), ilX4_findSecond)
def ilX4_isBetter : a_IL := [(0, .aload_n 0, 1), (1, .getfield 32, 3), (4, .ifCond .eq 13, 3), (7, .iload_n 1, 1), (8, .aload_n 0, 1), (9, .getfield 95, 3), (12, .if_icmp .gt 5, 3), (15, .iconst 0, 1), (16, .ireturn, 1), (17, .aload_n 0, 1), (18, .iconst 1, 1), (19, .putfield 32, 3), (22, .aload_n 0, 1), (23, .iload_n 1, 1), (24, .putfield 95, 3), (27, .iconst 1, 1), (28, .ireturn, 1)]
def mX4_isBetter : a_Mth := (4, ⟨"BillWall$Places", "isBetter", "(I)Z"⟩, prog_6_method_5_code, 2, (Option.some FieldType.boolean), 0, 0, (4, 158), ilX4_isBetter)
def ilX4_compete : a_IL := [(0, .aload_n 0, 1), (1, .getfield 18, 3), (4, .aload_n 1, 1), (5, .invokevirtual 77, 3), (8, .aload_n 0, 1), (9, .iconst 0, 1), (10, .putfield 102, 3), (13, .iconst 0, 1), (14, .istore 5, 2), (16, .iload 5, 2), (18, .iload 4, 2), (20, .if_icmp .ge 32, 3), (23, .aload_n 0, 1), (24, .iload_n 2, 1), (25, .invokevirtual 105, 3), (28, .aload_n 0, 1), (29, .iload_n 3, 1), (30, .invokevirtual 105, 3), (33, .aload_n 0, 1), (34, .getfield 18, 3), (37, .dup, 1), (38, .getfield 109, 3), (41, .iconst 1, 1), (42, .iadd, 1), (43, .putfield 109, 3), (46, .iinc 5 1, 3), (49, .goto (-33), 3), (52, .aload_n 0, 1), (53, .getfield 25, 3), (56, .aload_n 0, 1), (57, .getfield 18, 3), (60, .invokevirtual 36, 3), (63, .return_, 1)]
def mX4_compete : a_Mth := (4, ⟨"BillWall$Places", "compete", "(LBillWall$Bills;III)V"⟩, prog_6_method_6_code, 6, (Option.none : Option FieldType), 5, 121, (4, 190), ilX4_compete)
def ilX4_takeTurn : a_IL := [(0, .aload_n 0, 1), (1, .getfield 18, 3), (4, .invokevirtual 112, 3), (7, .ifCond .eq 4, 3), (10, .return_, 1), (11, .aload_n 0, 1), (12, .aload_n 0, 1), (13, .getfield 18, 3), (16, .iload_n 1, 1), (17, .invokevirtual 116, 3), (20, .aload_n 0, 1), (21, .getfield 32, 3), (24, .ifCond .eq 36, 3), (27, .aload_n 0, 1), (28, .getfield 95, 3), (31, .ifCond .le 29, 3), (34, .aload_n 0, 1), (35, .getfield 18, 3), (38, .iload_n 1, 1), (39, .aload_n 0, 1), (40, .getfield 71, 3), (43, .aload_n 0, 1), (44, .getfield 74, 3), (47, .invokevirtual 80, 3), (50, .aload_n 0, 1), (51, .dup, 1), (52, .getfield 102, 3), (55, .iconst 1, 1), (56, .iadd, 1), (57, .putfield 102, 3), (60, .return_, 1)]
def mX4_takeTurn : a_Mth := (4, ⟨"BillWall$Places", "takeTurn", "(I)V"⟩, prog_6_method_7_code, 2, (Option.none : Option FieldType), 4, 100, (4, 194), ilX4_takeTurn)
def ilX4_worthAtLast : a_IL := [(0, .aload_n 0, 1), (1, .getfield 25, 3), (4, .aload_n 0, 1), (5, .getfield 18, 3), (8, .aload_n 0, 1), (9, .getfield 7, 3), (12, .getfield 120, 3), (15, .iload_n 1, 1), (16, .iaload, 1), (17, .invokevirtual 123, 3), (20, .ireturn, 1)]
def mX4_worthAtLast : a_Mth := (4, ⟨"BillWall$Places", "worthAtLast", "(I)I"⟩, prog_6_method_8_code, 2, (Option.some FieldType.int), 3, 68, (4, 200), ilX4_worthAtLast)
def ilX5_init : a_IL := [(0, .aload_n 0, 1), (1, .invokespecial 3, 3), (4, .aload_n 0, 1), (5, .bipush 16, 2), (7, .newarray .int, 2), (9, .putfield 9, 3), (12, .aload_n 0, 1), (13, .bipush 8, 2), (15, .newarray .int, 2), (17, .putfield 15, 3), (20, .aload_n 0, 1), (21, .bipush 12, 2), (23, .newarray .int, 2), (25, .putfield 18, 3), (28, .aload_n 0, 1), (29, .bipush 12, 2), (31, .newarray .int, 2), (33, .putfield 21, 3), (36, .aload_n 0, 1), (37, .bipush 12, 2), (39, .newarray .int, 2), (41, .putfield 24, 3), (44, .aload_n 0, 1), (45, .invokevirtual 27, 3), (48, .return_, 1)]
def mX5_init : a_Mth := (5, ⟨"BillWall$Plan", "<init>", "()V"⟩, prog_7_method_1_code, 1, (Option.none : Option FieldType), 2, 43, (1, 30), ilX5_init)
def ilX5_untell : a_IL := [(0, .aload_n 0, 1), (1, .bipush 16, 2), (3, .putfield 30, 3), (6, .aload_n 0, 1), (7, .bipush 8, 2), (9, .putfield 34, 3), (12, .aload_n 0, 1), (13, .iconst 3, 1), (14, .putfield 37, 3), (17, .aload_n 0, 1), (18, .bipush 10, 2), (20, .putfield 40, 3), (23, .aload_n 0, 1), (24, .bipush 60, 2), (26, .putfield 43, 3), (29, .aload_n 0, 1), (30, .iconst 0, 1), (31, .putfield 46, 3), (34, .aload_n 0, 1), (35, .iconst 0, 1), (36, .putfield 49, 3), (39, .aload_n 0, 1), (40, .getfield 9, 3), (43, .iconst 1, 1), (44, .invokestatic 52, 3), (47, .aload_n 0, 1), (48, .getfield 15, 3), (51, .iconst 0, 1), (52, .invokestatic 52, 3), (55, .return_, 1)]
def mX5_untell : a_Mth := (5, ⟨"BillWall$Plan", "untell", "()V"⟩, prog_7_method_2_code, 1, (Option.none : Option FieldType), 1, 23, (1, 35), ilX5_untell)
def ilX5_copyFrom : a_IL := [(0, .aload_n 0, 1), (1, .aload_n 1, 1), (2, .getfield 30, 3), (5, .putfield 30, 3), (8, .aload_n 0, 1), (9, .aload_n 1, 1), (10, .getfield 34, 3), (13, .putfield 34, 3), (16, .aload_n 0, 1), (17, .aload_n 1, 1), (18, .getfield 37, 3), (21, .putfield 37, 3), (24, .aload_n 0, 1), (25, .aload_n 1, 1), (26, .getfield 40, 3), (29, .putfield 40, 3), (32, .aload_n 0, 1), (33, .aload_n 1, 1), (34, .getfield 43, 3), (37, .putfield 43, 3), (40, .aload_n 0, 1), (41, .aload_n 1, 1), (42, .getfield 46, 3), (45, .putfield 46, 3), (48, .aload_n 0, 1), (49, .aload_n 1, 1), (50, .getfield 49, 3), (53, .putfield 49, 3), (56, .aload_n 1, 1), (57, .getfield 9, 3), (60, .iconst 0, 1), (61, .aload_n 0, 1), (62, .getfield 9, 3), (65, .iconst 0, 1), (66, .bipush 16, 2), (68, .invokestatic 58, 3), (71, .aload_n 1, 1), (72, .getfield 15, 3), (75, .iconst 0, 1), (76, .aload_n 0, 1), (77, .getfield 15, 3), (80, .iconst 0, 1), (81, .bipush 8, 2), (83, .invokestatic 58, 3), (86, .aload_n 1, 1), (87, .getfield 18, 3), (90, .iconst 0, 1), (91, .aload_n 0, 1), (92, .getfield 18, 3), (95, .iconst 0, 1), (96, .bipush 12, 2), (98, .invokestatic 58, 3), (101, .aload_n 1, 1), (102, .getfield 21, 3), (105, .iconst 0, 1), (106, .aload_n 0, 1), (107, .getfield 21, 3), (110, .iconst 0, 1), (111, .bipush 12, 2), (113, .invokestatic 58, 3), (116, .aload_n 1, 1), (117, .getfield 24, 3), (120, .iconst 0, 1), (121, .aload_n 0, 1), (122, .getfield 24, 3), (125, .iconst 0, 1), (126, .bipush 12, 2), (128, .invokestatic 58, 3), (131, .return_, 1)]
def mX5_copyFrom : a_Mth := (5, ⟨"BillWall$Plan", "copyFrom", "(LBillWall$Plan;)V"⟩, prog_7_method_3_code, 2, (Option.none : Option FieldType), 1, 26, (3, 71), ilX5_copyFrom)
def ilX5_addStrip : a_IL := [(0, .iconst 1, 1), (1, .iload_n 3, 1), (2, .ishl, 1), (3, .iconst 1, 1), (4, .isub, 1), (5, .iload_n 1, 1), (6, .ishl, 1), (7, .istore 5, 2), (9, .iload_n 2, 1), (10, .istore 6, 2), (12, .iload 6, 2), (14, .iload_n 2, 1), (15, .iload 4, 2), (17, .iadd, 1), (18, .if_icmp .ge 28, 3), (21, .iload 6, 2), (23, .bipush 8, 2), (25, .if_icmp .ge 21, 3), (28, .aload_n 0, 1), (29, .getfield 15, 3), (32, .iload 6, 2), (34, .dup2, 1), (35, .iaload, 1), (36, .iload 5, 2), (38, .ior, 1), (39, .iastore, 1), (40, .iinc 6 1, 3), (43, .goto (-31), 3), (46, .aload_n 0, 1), (47, .dup, 1), (48, .getfield 46, 3), (51, .iconst 1, 1), (52, .iadd, 1), (53, .putfield 46, 3), (56, .return_, 1)]
def mX5_addStrip : a_Mth := (5, ⟨"BillWall$Plan", "addStrip", "(IIII)V"⟩, prog_7_method_4_code, 7, (Option.none : Option FieldType), 0, 0, (3, 51), ilX5_addStrip)
def ilX5_addKind : a_IL := [(0, .aload_n 0, 1), (1, .getfield 49, 3), (4, .bipush 12, 2), (6, .if_icmp .ge 43, 3), (9, .aload_n 0, 1), (10, .getfield 18, 3), (13, .aload_n 0, 1), (14, .getfield 49, 3), (17, .iload_n 1, 1), (18, .iastore, 1), (19, .aload_n 0, 1), (20, .getfield 21, 3), (23, .aload_n 0, 1), (24, .getfield 49, 3), (27, .iload_n 2, 1), (28, .iastore, 1), (29, .aload_n 0, 1), (30, .getfield 24, 3), (33, .aload_n 0, 1), (34, .getfield 49, 3), (37, .iload_n 3, 1), (38, .iastore, 1), (39, .aload_n 0, 1), (40, .dup, 1), (41, .getfield 49, 3), (44, .iconst 1, 1), (45, .iadd, 1), (46, .putfield 49, 3), (49, .return_, 1)]
def mX5_addKind : a_Mth := (5, ⟨"BillWall$Plan", "addKind", "(III)V"⟩, prog_7_method_5_code, 4, (Option.none : Option FieldType), 0, 0, (3, 63), ilX5_addKind)
def ilX5_hasKind : a_IL := [(0, .iload_n 1, 1), (1, .ifCond .lt 15, 3), (4, .iload_n 1, 1), (5, .aload_n 0, 1), (6, .getfield 49, 3), (9, .if_icmp .ge 7, 3), (12, .iconst 1, 1), (13, .goto 4, 3), (16, .iconst 0, 1), (17, .ireturn, 1)]
def mX5_hasKind : a_Mth := (5, ⟨"BillWall$Plan", "hasKind", "(I)Z"⟩, prog_7_method_6_code, 2, (Option.some FieldType.boolean), 0, 0, (3, 97), ilX5_hasKind)
def ilX5_hasCell : a_IL := [(0, .iload_n 1, 1), (1, .ifCond .lt 27, 3), (4, .iload_n 1, 1), (5, .aload_n 0, 1), (6, .getfield 30, 3), (9, .if_icmp .ge 19, 3), (12, .iload_n 2, 1), (13, .ifCond .lt 15, 3), (16, .iload_n 2, 1), (17, .aload_n 0, 1), (18, .getfield 34, 3), (21, .if_icmp .ge 7, 3), (24, .iconst 1, 1), (25, .goto 4, 3), (28, .iconst 0, 1), (29, .ireturn, 1)]
def mX5_hasCell : a_Mth := (5, ⟨"BillWall$Plan", "hasCell", "(II)Z"⟩, prog_7_method_7_code, 3, (Option.some FieldType.boolean), 0, 0, (3, 106), ilX5_hasCell)
def ilX5_holds : a_IL := [(0, .iload_n 2, 1), (1, .ifCond .lt 41, 3), (4, .iload_n 3, 1), (5, .ifCond .lt 37, 3), (8, .iload_n 2, 1), (9, .aload_n 0, 1), (10, .getfield 30, 3), (13, .aload_n 0, 1), (14, .getfield 21, 3), (17, .iload_n 1, 1), (18, .iaload, 1), (19, .isub, 1), (20, .if_icmp .gt 22, 3), (23, .iload_n 3, 1), (24, .aload_n 0, 1), (25, .getfield 34, 3), (28, .aload_n 0, 1), (29, .getfield 24, 3), (32, .iload_n 1, 1), (33, .iaload, 1), (34, .isub, 1), (35, .if_icmp .gt 7, 3), (38, .iconst 1, 1), (39, .goto 4, 3), (42, .iconst 0, 1), (43, .ireturn, 1)]
def mX5_holds : a_Mth := (5, ⟨"BillWall$Plan", "holds", "(III)Z"⟩, prog_7_method_8_code, 4, (Option.some FieldType.boolean), 0, 0, (3, 119), ilX5_holds)
def ilX5_isBarred : a_IL := [(0, .iconst 1, 1), (1, .aload_n 0, 1), (2, .getfield 21, 3), (5, .iload_n 1, 1), (6, .iaload, 1), (7, .ishl, 1), (8, .iconst 1, 1), (9, .isub, 1), (10, .iload_n 2, 1), (11, .ishl, 1), (12, .istore 4, 2), (14, .iload_n 3, 1), (15, .istore 5, 2), (17, .iload 5, 2), (19, .iload_n 3, 1), (20, .aload_n 0, 1), (21, .getfield 24, 3), (24, .iload_n 1, 1), (25, .iaload, 1), (26, .iadd, 1), (27, .if_icmp .ge 24, 3), (30, .aload_n 0, 1), (31, .getfield 15, 3), (34, .iload 5, 2), (36, .iaload, 1), (37, .iload 4, 2), (39, .iand, 1), (40, .ifCond .eq 5, 3), (43, .iconst 1, 1), (44, .ireturn, 1), (45, .iinc 5 1, 3), (48, .goto (-31), 3), (51, .iconst 0, 1), (52, .ireturn, 1)]
def mX5_isBarred : a_Mth := (5, ⟨"BillWall$Plan", "isBarred", "(III)Z"⟩, prog_7_method_9_code, 6, (Option.some FieldType.boolean), 0, 0, (3, 123), ilX5_isBarred)
def ilX5_canRead : a_IL := [(0, .bipush 100, 2), (2, .iload_n 1, 1), (3, .imul, 1), (4, .aload_n 0, 1), (5, .getfield 43, 3), (8, .iload_n 2, 1), (9, .imul, 1), (10, .if_icmp .lt 7, 3), (13, .iconst 1, 1), (14, .goto 4, 3), (17, .iconst 0, 1), (18, .ireturn, 1)]
def mX5_canRead : a_Mth := (5, ⟨"BillWall$Plan", "canRead", "(II)Z"⟩, prog_7_method_10_code, 3, (Option.some FieldType.boolean), 0, 0, (3, 173), ilX5_canRead)
def ilX5_passersOf : a_IL := [(0, .iconst 0, 1), (1, .istore_n 3, 1), (2, .iload_n 2, 1), (3, .istore 4, 2), (5, .iload 4, 2), (7, .iload_n 2, 1), (8, .aload_n 0, 1), (9, .getfield 21, 3), (12, .iload_n 1, 1), (13, .iaload, 1), (14, .iadd, 1), (15, .if_icmp .ge 19, 3), (18, .iload_n 3, 1), (19, .aload_n 0, 1), (20, .getfield 9, 3), (23, .iload 4, 2), (25, .iaload, 1), (26, .iadd, 1), (27, .istore_n 3, 1), (28, .iinc 4 1, 3), (31, .goto (-26), 3), (34, .iload_n 3, 1), (35, .aload_n 0, 1), (36, .getfield 24, 3), (39, .iload_n 1, 1), (40, .iaload, 1), (41, .imul, 1), (42, .ireturn, 1)]
def mX5_passersOf : a_Mth := (5, ⟨"BillWall$Plan", "passersOf", "(II)I"⟩, prog_7_method_11_code, 5, (Option.some FieldType.int), 0, 0, (3, 156), ilX5_passersOf)
def ilX6_init : a_IL := [(0, .aload_n 0, 1), (1, .invokespecial 3, 3), (4, .aload_n 0, 1), (5, .sipush 300, 3), (8, .newarray .char, 2), (10, .putfield 9, 3), (13, .aload_n 0, 1), (14, .iconst (-1), 1), (15, .putfield 15, 3), (18, .return_, 1)]
def mX6_init : a_Mth := (6, ⟨"BillWall$Reader", "<init>", "()V"⟩, prog_8_method_1_code, 1, (Option.none : Option FieldType), 1, 20, (1, 121), ilX6_init)
def ilX6_append : a_IL := [(0, .aload_n 0, 1), (1, .getfield 19, 3), (4, .iload_n 1, 1), (5, .iadd, 1), (6, .sipush 300, 3), (9, .if_icmp .le 5, 3), (12, .iconst 0, 1), (13, .ireturn, 1), (14, .iload_n 1, 1), (15, .iconst 1, 1), (16, .isub, 1), (17, .istore 4, 2), (19, .iload 4, 2), (21, .ifCond .lt 41, 3), (24, .aload_n 0, 1), (25, .getfield 9, 3), (28, .aload_n 0, 1), (29, .getfield 19, 3), (32, .lload_n 2, 1), (33, .bipush 8, 2), (35, .iload 4, 2), (37, .imul, 1), (38, .lushr, 1), (39, .ldc2_w 22, 3), (42, .land, 1), (43, .l2i, 1), (44, .i2c, 1), (45, .castore, 1), (46, .aload_n 0, 1), (47, .dup, 1), (48, .getfield 19, 3), (51, .iconst 1, 1), (52, .iadd, 1), (53, .putfield 19, 3), (56, .iinc 4 (-1), 3), (59, .goto (-40), 3), (62, .iconst 1, 1), (63, .ireturn, 1)]
def mX6_append : a_Mth := (6, ⟨"BillWall$Reader", "append", "(IJ)Z"⟩, prog_8_method_2_code, 5, (Option.some FieldType.boolean), 0, 0, (2, 165), ilX6_append)
def ilX6_readInto : a_IL := [(0, .aload_n 0, 1), (1, .iconst 0, 1), (2, .putfield 24, 3), (5, .aload_n 0, 1), (6, .iconst 0, 1), (7, .putfield 27, 3), (10, .aload_n 0, 1), (11, .iconst (-1), 1), (12, .putfield 15, 3), (15, .aload_n 0, 1), (16, .iconst 0, 1), (17, .putfield 30, 3), (20, .aload_n 0, 1), (21, .iconst 0, 1), (22, .putfield 33, 3), (25, .aload_n 1, 1), (26, .invokevirtual 36, 3), (29, .aload_n 0, 1), (30, .invokevirtual 41, 3), (33, .iconst 0, 1), (34, .istore_n 2, 1), (35, .iload_n 2, 1), (36, .sipush 300, 3), (39, .if_icmp .ge 36, 3), (42, .aload_n 0, 1), (43, .getfield 24, 3), (46, .aload_n 0, 1), (47, .getfield 19, 3), (50, .if_icmp .ge 25, 3), (53, .aload_n 0, 1), (54, .invokevirtual 44, 3), (57, .ifCond .eq 18, 3), (60, .aload_n 0, 1), (61, .aload_n 1, 1), (62, .invokevirtual 48, 3), (65, .aload_n 0, 1), (66, .invokevirtual 41, 3), (69, .iinc 2 1, 3), (72, .goto (-37), 3), (75, .aload_n 0, 1), (76, .invokevirtual 44, 3), (79, .ireturn, 1)]
def mX6_readInto : a_Mth := (6, ⟨"BillWall$Reader", "readInto", "(LBillWall$Plan;)Z"⟩, prog_8_method_3_code, 3, (Option.some FieldType.boolean), 8, 189, (2, 175), ilX6_readInto)
def ilX6_isFaultless : a_IL := [(0, .aload_n 0, 1), (1, .getfield 27, 3), (4, .ifCond .ne 7, 3), (7, .iconst 1, 1), (8, .goto 4, 3), (11, .iconst 0, 1), (12, .ireturn, 1)]
def mX6_isFaultless : a_Mth := (6, ⟨"BillWall$Reader", "isFaultless", "()Z"⟩, prog_8_method_4_code, 1, (Option.some FieldType.boolean), 0, 0, (2, 184), ilX6_isFaultless)
def ilX6_fail : a_IL := [(0, .aload_n 0, 1), (1, .getfield 27, 3), (4, .ifCond .ne 13, 3), (7, .aload_n 0, 1), (8, .iload_n 1, 1), (9, .putfield 27, 3), (12, .aload_n 0, 1), (13, .iload_n 2, 1), (14, .putfield 15, 3), (17, .return_, 1)]
def mX6_fail : a_Mth := (6, ⟨"BillWall$Reader", "fail", "(II)V"⟩, prog_8_method_5_code, 3, (Option.none : Option FieldType), 0, 0, (3, 28), ilX6_fail)
def ilX6_readClause : a_IL := [(0, .aload_n 0, 1), (1, .getfield 24, 3), (4, .istore_n 2, 1), (5, .aload_n 0, 1), (6, .invokevirtual 52, 3), (9, .istore_n 3, 1), (10, .iload_n 3, 1), (11, .iconst (-1), 1), (12, .if_icmp .eq 14, 3), (15, .iload_n 3, 1), (16, .ifCond .ne 17, 3), (19, .aload_n 0, 1), (20, .invokevirtual 56, 3), (23, .ifCond .eq 10, 3), (26, .aload_n 0, 1), (27, .iconst 1, 1), (28, .iload_n 2, 1), (29, .invokevirtual 59, 3), (32, .return_, 1), (33, .aload_n 0, 1), (34, .aload_n 1, 1), (35, .iload_n 3, 1), (36, .invokevirtual 63, 3), (39, .ifCond .eq 10, 3), (42, .aload_n 0, 1), (43, .iconst 3, 1), (44, .iload_n 2, 1), (45, .invokevirtual 59, 3), (48, .return_, 1), (49, .aload_n 0, 1), (50, .dup, 1), (51, .getfield 30, 3), (54, .iconst 1, 1), (55, .iload_n 3, 1), (56, .ishl, 1), (57, .ior, 1), (58, .putfield 30, 3), (61, .aload_n 0, 1), (62, .aload_n 1, 1), (63, .iload_n 3, 1), (64, .invokevirtual 67, 3), (67, .aload_n 0, 1), (68, .invokevirtual 71, 3), (71, .return_, 1)]
def mX6_readClause : a_Mth := (6, ⟨"BillWall$Reader", "readClause", "(LBillWall$Plan;)V"⟩, prog_8_method_6_code, 4, (Option.none : Option FieldType), 7, 166, (2, 188), ilX6_readClause)
def ilX6_isSizeTooLate : a_IL := [(0, .aload_n 0, 1), (1, .getfield 30, 3), (4, .iconst 4, 1), (5, .invokestatic 74, 3), (8, .ifCond .ne 26, 3), (11, .aload_n 0, 1), (12, .getfield 30, 3), (15, .iconst 5, 1), (16, .invokestatic 74, 3), (19, .ifCond .ne 15, 3), (22, .aload_n 0, 1), (23, .getfield 30, 3), (26, .bipush 6, 2), (28, .invokestatic 74, 3), (31, .ifCond .eq 7, 3), (34, .iconst 1, 1), (35, .goto 4, 3), (38, .iconst 0, 1), (39, .ireturn, 1)]
def mX6_isSizeTooLate : a_Mth := (6, ⟨"BillWall$Reader", "isSizeTooLate", "()Z"⟩, prog_8_method_7_code, 1, (Option.some FieldType.boolean), 1, 21, (3, 21), ilX6_isSizeTooLate)
def ilX6_isTold : a_IL := [(0, .iload_n 2, 1), (1, .tableswitch 59 4 6 #[27, 57, 42], 27), (28, .aload_n 1, 1), (29, .getfield 78, 3), (32, .bipush 8, 2), (34, .if_icmp .lt 7, 3), (37, .iconst 1, 1), (38, .goto 4, 3), (41, .iconst 0, 1), (42, .ireturn, 1), (43, .aload_n 1, 1), (44, .getfield 81, 3), (47, .bipush 12, 2), (49, .if_icmp .lt 7, 3), (52, .iconst 1, 1), (53, .goto 4, 3), (56, .iconst 0, 1), (57, .ireturn, 1), (58, .iconst 0, 1), (59, .ireturn, 1), (60, .aload_n 0, 1), (61, .getfield 30, 3), (64, .iload_n 2, 1), (65, .invokestatic 74, 3), (68, .ireturn, 1)]
def mX6_isTold : a_Mth := (6, ⟨"BillWall$Reader", "isTold", "(LBillWall$Plan;I)Z"⟩, prog_8_method_8_code, 3, (Option.some FieldType.boolean), 1, 21, (3, 32), ilX6_isTold)
def ilX6_readNumbers : a_IL := [(0, .iload_n 2, 1), (1, .tableswitch 123 0 5 #[39, 64, 78, 93, 107, 115], 39), (40, .aload_n 1, 1), (41, .aload_n 0, 1), (42, .iconst 1, 1), (43, .bipush 16, 2), (45, .invokevirtual 84, 3), (48, .putfield 88, 3), (51, .aload_n 1, 1), (52, .aload_n 0, 1), (53, .iconst 1, 1), (54, .bipush 8, 2), (56, .invokevirtual 84, 3), (59, .putfield 91, 3), (62, .goto 67, 3), (65, .aload_n 1, 1), (66, .aload_n 0, 1), (67, .iconst 0, 1), (68, .bipush 99, 2), (70, .invokevirtual 84, 3), (73, .putfield 94, 3), (76, .goto 53, 3), (79, .aload_n 1, 1), (80, .aload_n 0, 1), (81, .iconst 0, 1), (82, .sipush 999, 3), (85, .invokevirtual 84, 3), (88, .putfield 97, 3), (91, .goto 38, 3), (94, .aload_n 1, 1), (95, .aload_n 0, 1), (96, .iconst 1, 1), (97, .bipush 100, 2), (99, .invokevirtual 84, 3), (102, .putfield 100, 3), (105, .goto 24, 3), (108, .aload_n 0, 1), (109, .aload_n 1, 1), (110, .invokevirtual 103, 3), (113, .goto 16, 3), (116, .aload_n 0, 1), (117, .aload_n 1, 1), (118, .invokevirtual 106, 3), (121, .goto 8, 3), (124, .aload_n 0, 1), (125, .aload_n 1, 1), (126, .invokevirtual 109, 3), (129, .return_, 1)]
def mX6_readNumbers : a_Mth := (6, ⟨"BillWall$Reader", "readNumbers", "(LBillWall$Plan;I)V"⟩, prog_8_method_9_code, 3, (Option.none : Option FieldType), 3, 71, (3, 36), ilX6_readNumbers)
def ilX6_readStrip : a_IL := [(0, .aload_n 0, 1), (1, .iconst 0, 1), (2, .aload_n 1, 1), (3, .getfield 88, 3), (6, .iconst 1, 1), (7, .isub, 1), (8, .invokevirtual 84, 3), (11, .istore_n 2, 1), (12, .aload_n 0, 1), (13, .iconst 0, 1), (14, .aload_n 1, 1), (15, .getfield 91, 3), (18, .iconst 1, 1), (19, .isub, 1), (20, .invokevirtual 84, 3), (23, .istore_n 3, 1), (24, .aload_n 0, 1), (25, .iconst 1, 1), (26, .aload_n 1, 1), (27, .getfield 88, 3), (30, .iload_n 2, 1), (31, .isub, 1), (32, .invokevirtual 84, 3), (35, .istore 4, 2), (37, .aload_n 0, 1), (38, .iconst 1, 1), (39, .aload_n 1, 1), (40, .getfield 91, 3), (43, .iload_n 3, 1), (44, .isub, 1), (45, .invokevirtual 84, 3), (48, .istore 5, 2), (50, .aload_n 0, 1), (51, .invokevirtual 44, 3), (54, .ifCond .eq 13, 3), (57, .aload_n 1, 1), (58, .iload_n 2, 1), (59, .iload_n 3, 1), (60, .iload 4, 2), (62, .iload 5, 2), (64, .invokevirtual 112, 3), (67, .return_, 1)]
def mX6_readStrip : a_Mth := (6, ⟨"BillWall$Reader", "readStrip", "(LBillWall$Plan;)V"⟩, prog_8_method_10_code, 6, (Option.none : Option FieldType), 2, 46, (3, 47), ilX6_readStrip)
def ilX6_readPassers : a_IL := [(0, .aload_n 0, 1), (1, .iconst 0, 1), (2, .aload_n 1, 1), (3, .getfield 88, 3), (6, .iconst 1, 1), (7, .isub, 1), (8, .invokevirtual 84, 3), (11, .istore_n 2, 1), (12, .aload_n 0, 1), (13, .getfield 33, 3), (16, .iload_n 2, 1), (17, .invokestatic 74, 3), (20, .ifCond .eq 12, 3), (23, .aload_n 0, 1), (24, .iconst 4, 1), (25, .aload_n 0, 1), (26, .getfield 116, 3), (29, .invokevirtual 59, 3), (32, .aload_n 0, 1), (33, .iconst 0, 1), (34, .bipush 99, 2), (36, .invokevirtual 84, 3), (39, .istore_n 3, 1), (40, .aload_n 0, 1), (41, .invokevirtual 44, 3), (44, .ifCond .eq 22, 3), (47, .aload_n 1, 1), (48, .getfield 119, 3), (51, .iload_n 2, 1), (52, .iload_n 3, 1), (53, .iastore, 1), (54, .aload_n 0, 1), (55, .dup, 1), (56, .getfield 33, 3), (59, .iconst 1, 1), (60, .iload_n 2, 1), (61, .ishl, 1), (62, .ior, 1), (63, .putfield 33, 3), (66, .return_, 1)]
def mX6_readPassers : a_Mth := (6, ⟨"BillWall$Reader", "readPassers", "(LBillWall$Plan;)V"⟩, prog_8_method_11_code, 4, (Option.none : Option FieldType), 2, 46, (3, 55), ilX6_readPassers)
def ilX6_readKind : a_IL := [(0, .aload_n 0, 1), (1, .iconst 0, 1), (2, .iconst 5, 1), (3, .invokevirtual 84, 3), (6, .istore_n 2, 1), (7, .aload_n 0, 1), (8, .iconst 1, 1), (9, .aload_n 1, 1), (10, .getfield 88, 3), (13, .invokevirtual 84, 3), (16, .istore_n 3, 1), (17, .aload_n 0, 1), (18, .iconst 1, 1), (19, .aload_n 1, 1), (20, .getfield 91, 3), (23, .invokevirtual 84, 3), (26, .istore 4, 2), (28, .aload_n 0, 1), (29, .invokevirtual 44, 3), (32, .ifCond .eq 11, 3), (35, .aload_n 1, 1), (36, .iload_n 2, 1), (37, .iload_n 3, 1), (38, .iload 4, 2), (40, .invokevirtual 123, 3), (43, .return_, 1)]
def mX6_readKind : a_Mth := (6, ⟨"BillWall$Reader", "readKind", "(LBillWall$Plan;)V"⟩, prog_8_method_12_code, 5, (Option.none : Option FieldType), 2, 46, (3, 59), ilX6_readKind)
def ilX6_readNumber : a_IL := [(0, .aload_n 0, 1), (1, .invokevirtual 41, 3), (4, .aload_n 0, 1), (5, .aload_n 0, 1), (6, .getfield 24, 3), (9, .putfield 116, 3), (12, .iconst 0, 1), (13, .istore_n 3, 1), (14, .iconst 0, 1), (15, .istore 4, 2), (17, .aload_n 0, 1), (18, .getfield 24, 3), (21, .aload_n 0, 1), (22, .getfield 19, 3), (25, .if_icmp .ge 58, 3), (28, .aload_n 0, 1), (29, .getfield 9, 3), (32, .aload_n 0, 1), (33, .getfield 24, 3), (36, .caload, 1), (37, .invokestatic 127, 3), (40, .ifCond .eq 43, 3), (43, .iinc 4 1, 3), (46, .iload 4, 2), (48, .iconst 3, 1), (49, .if_icmp .gt 21, 3), (52, .iload_n 3, 1), (53, .bipush 10, 2), (55, .imul, 1), (56, .aload_n 0, 1), (57, .getfield 9, 3), (60, .aload_n 0, 1), (61, .getfield 24, 3), (64, .caload, 1), (65, .bipush 48, 2), (67, .isub, 1), (68, .iadd, 1), (69, .istore_n 3, 1), (70, .aload_n 0, 1), (71, .dup, 1), (72, .getfield 24, 3), (75, .iconst 1, 1), (76, .iadd, 1), (77, .putfield 24, 3), (80, .goto (-63), 3), (83, .iload 4, 2), (85, .ifCond .ne 15, 3), (88, .aload_n 0, 1), (89, .iconst 1, 1), (90, .aload_n 0, 1), (91, .getfield 116, 3), (94, .invokevirtual 59, 3), (97, .goto 28, 3), (100, .iload 4, 2), (102, .iconst 3, 1), (103, .if_icmp .gt 13, 3), (106, .iload_n 3, 1), (107, .iload_n 1, 1), (108, .if_icmp .lt 8, 3), (111, .iload_n 3, 1), (112, .iload_n 2, 1), (113, .if_icmp .le 12, 3), (116, .aload_n 0, 1), (117, .iconst 2, 1), (118, .aload_n 0, 1), (119, .getfield 116, 3), (122, .invokevirtual 59, 3), (125, .aload_n 0, 1), (126, .invokevirtual 44, 3), (129, .ifCond .eq 7, 3), (132, .iload_n 3, 1), (133, .goto 4, 3), (136, .iload_n 1, 1), (137, .ireturn, 1)]
def mX6_readNumber : a_Mth := (6, ⟨"BillWall$Reader", "readNumber", "(II)I"⟩, prog_8_method_13_code, 5, (Option.some FieldType.int), 1, 22, (3, 40), ilX6_readNumber)
def ilX6_readEnd : a_IL := [(0, .aload_n 0, 1), (1, .invokevirtual 41, 3), (4, .aload_n 0, 1), (5, .getfield 24, 3), (8, .aload_n 0, 1), (9, .getfield 19, 3), (12, .if_icmp .ge 30, 3), (15, .aload_n 0, 1), (16, .getfield 9, 3), (19, .aload_n 0, 1), (20, .getfield 24, 3), (23, .caload, 1), (24, .bipush 59, 2), (26, .if_icmp .ne 16, 3), (29, .aload_n 0, 1), (30, .dup, 1), (31, .getfield 24, 3), (34, .iconst 1, 1), (35, .iadd, 1), (36, .putfield 24, 3), (39, .goto 12, 3), (42, .aload_n 0, 1), (43, .iconst 1, 1), (44, .aload_n 0, 1), (45, .getfield 24, 3), (48, .invokevirtual 59, 3), (51, .return_, 1)]
def mX6_readEnd : a_Mth := (6, ⟨"BillWall$Reader", "readEnd", "()V"⟩, prog_8_method_14_code, 1, (Option.none : Option FieldType), 1, 22, (3, 67), ilX6_readEnd)
def ilX6_skipBlanks : a_IL := [(0, .aload_n 0, 1), (1, .getfield 24, 3), (4, .aload_n 0, 1), (5, .getfield 19, 3), (8, .if_icmp .ge 30, 3), (11, .aload_n 0, 1), (12, .getfield 9, 3), (15, .aload_n 0, 1), (16, .getfield 24, 3), (19, .caload, 1), (20, .bipush 32, 2), (22, .if_icmp .ne 16, 3), (25, .aload_n 0, 1), (26, .dup, 1), (27, .getfield 24, 3), (30, .iconst 1, 1), (31, .iadd, 1), (32, .putfield 24, 3), (35, .goto (-35), 3), (38, .return_, 1)]
def mX6_skipBlanks : a_Mth := (6, ⟨"BillWall$Reader", "skipBlanks", "()V"⟩, prog_8_method_15_code, 1, (Option.none : Option FieldType), 0, 0, (2, 180), ilX6_skipBlanks)
def ilX6_readWord : a_IL := [(0, .aload_n 0, 1), (1, .getfield 24, 3), (4, .istore_n 1, 1), (5, .aload_n 0, 1), (6, .getfield 24, 3), (9, .aload_n 0, 1), (10, .getfield 19, 3), (13, .if_icmp .ge 31, 3), (16, .aload_n 0, 1), (17, .getfield 9, 3), (20, .aload_n 0, 1), (21, .getfield 24, 3), (24, .caload, 1), (25, .invokestatic 131, 3), (28, .ifCond .eq 16, 3), (31, .aload_n 0, 1), (32, .dup, 1), (33, .getfield 24, 3), (36, .iconst 1, 1), (37, .iadd, 1), (38, .putfield 24, 3), (41, .goto (-36), 3), (44, .iconst 0, 1), (45, .istore_n 2, 1), (46, .iload_n 2, 1), (47, .bipush 7, 2), (49, .if_icmp .ge 23, 3), (52, .aload_n 0, 1), (53, .iload_n 1, 1), (54, .iload_n 2, 1), (55, .invokestatic 134, 3), (58, .invokevirtual 138, 3), (61, .ifCond .eq 5, 3), (64, .iload_n 2, 1), (65, .ireturn, 1), (66, .iinc 2 1, 3), (69, .goto (-23), 3), (72, .iconst (-1), 1), (73, .ireturn, 1)]
def mX6_readWord : a_Mth := (6, ⟨"BillWall$Reader", "readWord", "()I"⟩, prog_8_method_16_code, 3, (Option.some FieldType.int), 6, 144, (2, 192), ilX6_readWord)
def ilX6_spells : a_IL := [(0, .aload_n 0, 1), (1, .getfield 24, 3), (4, .iload_n 1, 1), (5, .isub, 1), (6, .aload_n 2, 1), (7, .invokevirtual 142, 3), (10, .if_icmp .eq 5, 3), (13, .iconst 0, 1), (14, .ireturn, 1), (15, .iconst 0, 1), (16, .istore_n 3, 1), (17, .iload_n 3, 1), (18, .aload_n 2, 1), (19, .invokevirtual 142, 3), (22, .if_icmp .ge 27, 3), (25, .aload_n 0, 1), (26, .getfield 9, 3), (29, .iload_n 1, 1), (30, .iload_n 3, 1), (31, .iadd, 1), (32, .caload, 1), (33, .aload_n 2, 1), (34, .iload_n 3, 1), (35, .invokevirtual 146, 3), (38, .if_icmp .eq 5, 3), (41, .iconst 0, 1), (42, .ireturn, 1), (43, .iinc 3 1, 3), (46, .goto (-29), 3), (49, .iconst 1, 1), (50, .ireturn, 1)]
def mX6_spells : a_Mth := (6, ⟨"BillWall$Reader", "spells", "(ILjava/lang/String;)Z"⟩, prog_8_method_17_code, 4, (Option.some FieldType.boolean), 5, 121, (2, 209), ilX6_spells)
def ilX6_nameOf : a_IL := [(0, .iload_n 0, 1), (1, .tableswitch 57 0 5 #[39, 42, 45, 48, 51, 54], 39), (40, .ldc 150, 2), (42, .areturn, 1), (43, .ldc 152, 2), (45, .areturn, 1), (46, .ldc 153, 2), (48, .areturn, 1), (49, .ldc 154, 2), (51, .areturn, 1), (52, .ldc 156, 2), (54, .areturn, 1), (55, .ldc 158, 2), (57, .areturn, 1), (58, .ldc 160, 2), (60, .areturn, 1)]
def mX6_nameOf : a_Mth := (6, ⟨"BillWall$Reader", "nameOf", "(I)Ljava/lang/String;"⟩, prog_8_method_18_code, 1, (Option.some (FieldType.object "java/lang/String")), 0, 0, (2, 198), ilX6_nameOf)
def ilX6_isLetter : a_IL := [(0, .iload_n 0, 1), (1, .bipush 97, 2), (3, .if_icmp .lt 13, 3), (6, .iload_n 0, 1), (7, .bipush 122, 2), (9, .if_icmp .gt 7, 3), (12, .iconst 1, 1), (13, .goto 4, 3), (16, .iconst 0, 1), (17, .ireturn, 1)]
def mX6_isLetter : a_Mth := (6, ⟨"BillWall$Reader", "isLetter", "(C)Z"⟩, prog_8_method_19_code, 1, (Option.some FieldType.boolean), 0, 0, (2, 195), ilX6_isLetter)
def ilX6_isFigure : a_IL := [(0, .iload_n 0, 1), (1, .bipush 48, 2), (3, .if_icmp .lt 13, 3), (6, .iload_n 0, 1), (7, .bipush 57, 2), (9, .if_icmp .gt 7, 3), (12, .iconst 1, 1), (13, .goto 4, 3), (16, .iconst 0, 1), (17, .ireturn, 1)]
def mX6_isFigure : a_Mth := (6, ⟨"BillWall$Reader", "isFigure", "(C)Z"⟩, prog_8_method_20_code, 1, (Option.some FieldType.boolean), 0, 0, (3, 43), ilX6_isFigure)
def ilX7_init : a_IL := [(0, .aload_n 0, 1), (1, .invokespecial 3, 3), (4, .aload_n 0, 1), (5, .sipush 128, 3), (8, .newarray .int, 2), (10, .putfield 9, 3), (13, .aload_n 0, 1), (14, .bipush 20, 2), (16, .newarray .int, 2), (18, .putfield 15, 3), (21, .aload_n 0, 1), (22, .bipush 20, 2), (24, .newarray .int, 2), (26, .putfield 18, 3), (29, .aload_n 0, 1), (30, .bipush 20, 2), (32, .newarray .int, 2), (34, .putfield 21, 3), (37, .aload_n 0, 1), (38, .bipush 20, 2), (40, .newarray .int, 2), (42, .putfield 24, 3), (45, .aload_n 0, 1), (46, .aload_n 1, 1), (47, .putfield 27, 3), (50, .return_, 1)]
def mX7_init : a_Mth := (7, ⟨"BillWall$Sight", "<init>", "(LBillWall$Plan;)V"⟩, prog_9_method_1_code, 2, (Option.none : Option FieldType), 1, 20, (1, 231), ilX7_init)
def ilX7_lookAt : a_IL := [(0, .aload_n 0, 1), (1, .getfield 15, 3), (4, .iconst 0, 1), (5, .invokestatic 31, 3), (8, .aload_n 0, 1), (9, .getfield 18, 3), (12, .iconst 0, 1), (13, .invokestatic 31, 3), (16, .iconst 0, 1), (17, .istore_n 2, 1), (18, .iload_n 2, 1), (19, .aload_n 0, 1), (20, .getfield 27, 3), (23, .getfield 37, 3), (26, .if_icmp .ge 88, 3), (29, .iconst 0, 1), (30, .istore_n 3, 1), (31, .iload_n 3, 1), (32, .aload_n 0, 1), (33, .getfield 27, 3), (36, .getfield 43, 3), (39, .if_icmp .ge 69, 3), (42, .iload_n 3, 1), (43, .iload_n 2, 1), (44, .invokestatic 46, 3), (47, .istore 4, 2), (49, .aload_n 1, 1), (50, .iload 4, 2), (52, .invokevirtual 50, 3), (55, .istore 5, 2), (57, .aload_n 0, 1), (58, .getfield 9, 3), (61, .iload 4, 2), (63, .iload 5, 2), (65, .iastore, 1), (66, .iload 5, 2), (68, .iconst (-1), 1), (69, .if_icmp .eq 33, 3), (72, .aload_n 0, 1), (73, .getfield 15, 3), (76, .iload 5, 2), (78, .dup2, 1), (79, .iaload, 1), (80, .iconst 1, 1), (81, .iadd, 1), (82, .iastore, 1), (83, .aload_n 0, 1), (84, .getfield 18, 3), (87, .iload 5, 2), (89, .dup2, 1), (90, .iaload, 1), (91, .aload_n 0, 1), (92, .getfield 27, 3), (95, .getfield 56, 3), (98, .iload_n 3, 1), (99, .iaload, 1), (100, .iadd, 1), (101, .iastore, 1), (102, .iinc 3 1, 3), (105, .goto (-74), 3), (108, .iinc 2 1, 3), (111, .goto (-93), 3), (114, .return_, 1)]
def mX7_lookAt : a_Mth := (7, ⟨"BillWall$Sight", "lookAt", "(LBillWall$Bills;)V"⟩, prog_9_method_2_code, 6, (Option.none : Option FieldType), 2, 42, (3, 132), ilX7_lookAt)
def ilX7_worthOf : a_IL := [(0, .aload_n 0, 1), (1, .getfield 27, 3), (4, .aload_n 0, 1), (5, .getfield 15, 3), (8, .iload_n 2, 1), (9, .iaload, 1), (10, .aload_n 1, 1), (11, .iload_n 2, 1), (12, .invokevirtual 57, 3), (15, .invokevirtual 60, 3), (18, .ifCond .eq 12, 3), (21, .aload_n 0, 1), (22, .getfield 18, 3), (25, .iload_n 2, 1), (26, .iaload, 1), (27, .goto 4, 3), (30, .iconst 0, 1), (31, .ireturn, 1)]
def mX7_worthOf : a_Mth := (7, ⟨"BillWall$Sight", "worthOf", "(LBillWall$Bills;I)I"⟩, prog_9_method_3_code, 3, (Option.some FieldType.int), 1, 22, (3, 216), ilX7_worthOf)
def ilX7_worthOfOwner : a_IL := [(0, .iconst 0, 1), (1, .istore_n 3, 1), (2, .iconst 0, 1), (3, .istore 4, 2), (5, .iload 4, 2), (7, .aload_n 1, 1), (8, .getfield 64, 3), (11, .if_icmp .ge 29, 3), (14, .aload_n 1, 1), (15, .iload 4, 2), (17, .invokevirtual 67, 3), (20, .iload_n 2, 1), (21, .if_icmp .ne 13, 3), (24, .iload_n 3, 1), (25, .aload_n 0, 1), (26, .aload_n 1, 1), (27, .iload 4, 2), (29, .invokevirtual 70, 3), (32, .iadd, 1), (33, .istore_n 3, 1), (34, .iinc 4 1, 3), (37, .goto (-32), 3), (40, .iload_n 3, 1), (41, .ireturn, 1)]
def mX7_worthOfOwner : a_Mth := (7, ⟨"BillWall$Sight", "worthOfOwner", "(LBillWall$Bills;I)I"⟩, prog_9_method_4_code, 5, (Option.some FieldType.int), 2, 44, (4, 78), ilX7_worthOfOwner)
def ilX7_weigh : a_IL := [(0, .aload_n 0, 1), (1, .iload_n 2, 1), (2, .iload_n 3, 1), (3, .iload 4, 2), (5, .invokevirtual 74, 3), (8, .istore 5, 2), (10, .aload_n 0, 1), (11, .iconst 0, 1), (12, .putfield 78, 3), (15, .aload_n 0, 1), (16, .aload_n 0, 1), (17, .getfield 27, 3), (20, .iload_n 2, 1), (21, .iload_n 3, 1), (22, .invokevirtual 81, 3), (25, .putfield 84, 3), (28, .iload 5, 2), (30, .ifCond .ne 4, 3), (33, .return_, 1), (34, .iconst 0, 1), (35, .istore 6, 2), (37, .iload 6, 2), (39, .aload_n 1, 1), (40, .getfield 64, 3), (43, .if_icmp .ge 51, 3), (46, .iload 5, 2), (48, .iload 6, 2), (50, .invokestatic 87, 3), (53, .ifCond .eq 35, 3), (56, .aload_n 0, 1), (57, .aload_n 1, 1), (58, .iload 6, 2), (60, .aload_n 0, 1), (61, .getfield 27, 3), (64, .getfield 90, 3), (67, .iload_n 2, 1), (68, .iaload, 1), (69, .invokevirtual 93, 3), (72, .aload_n 0, 1), (73, .getfield 21, 3), (76, .iload 6, 2), (78, .iconst 0, 1), (79, .iastore, 1), (80, .aload_n 0, 1), (81, .getfield 24, 3), (84, .iload 6, 2), (86, .iconst 0, 1), (87, .iastore, 1), (88, .iinc 6 1, 3), (91, .goto (-54), 3), (94, .aload_n 0, 1), (95, .dup, 1), (96, .getfield 84, 3), (99, .aload_n 0, 1), (100, .getfield 78, 3), (103, .isub, 1), (104, .putfield 84, 3), (107, .return_, 1)]
def mX7_weigh : a_Mth := (7, ⟨"BillWall$Sight", "weigh", "(LBillWall$Bills;III)V"⟩, prog_9_method_5_code, 7, (Option.none : Option FieldType), 2, 50, (3, 148), ilX7_weigh)
def ilX7_hide : a_IL := [(0, .iconst 0, 1), (1, .istore 4, 2), (3, .iload_n 3, 1), (4, .aload_n 0, 1), (5, .getfield 27, 3), (8, .getfield 97, 3), (11, .iload_n 1, 1), (12, .iaload, 1), (13, .iadd, 1), (14, .istore 5, 2), (16, .iload_n 2, 1), (17, .aload_n 0, 1), (18, .getfield 27, 3), (21, .getfield 100, 3), (24, .iload_n 1, 1), (25, .iaload, 1), (26, .iadd, 1), (27, .istore 6, 2), (29, .iload_n 3, 1), (30, .istore 7, 2), (32, .iload 7, 2), (34, .iload 5, 2), (36, .if_icmp .ge 85, 3), (39, .iload_n 2, 1), (40, .istore 8, 2), (42, .iload 8, 2), (44, .iload 6, 2), (46, .if_icmp .ge 69, 3), (49, .aload_n 0, 1), (50, .getfield 9, 3), (53, .iload 8, 2), (55, .iload 7, 2), (57, .invokestatic 46, 3), (60, .iaload, 1), (61, .istore 9, 2), (63, .iload 9, 2), (65, .iconst (-1), 1), (66, .if_icmp .eq 43, 3), (69, .iload 4, 2), (71, .iconst 1, 1), (72, .iload 9, 2), (74, .ishl, 1), (75, .ior, 1), (76, .istore 4, 2), (78, .aload_n 0, 1), (79, .getfield 21, 3), (82, .iload 9, 2), (84, .dup2, 1), (85, .iaload, 1), (86, .iconst 1, 1), (87, .iadd, 1), (88, .iastore, 1), (89, .aload_n 0, 1), (90, .getfield 24, 3), (93, .iload 9, 2), (95, .dup2, 1), (96, .iaload, 1), (97, .aload_n 0, 1), (98, .getfield 27, 3), (101, .getfield 56, 3), (104, .iload 8, 2), (106, .iaload, 1), (107, .iadd, 1), (108, .iastore, 1), (109, .iinc 8 1, 3), (112, .goto (-70), 3), (115, .iinc 7 1, 3), (118, .goto (-86), 3), (121, .iload 4, 2), (123, .ireturn, 1)]
def mX7_hide : a_Mth := (7, ⟨"BillWall$Sight", "hide", "(III)I"⟩, prog_9_method_6_code, 10, (Option.some FieldType.int), 1, 21, (3, 152), ilX7_hide)
def ilX7_weighLoss : a_IL := [(0, .aload_n 1, 1), (1, .iload_n 2, 1), (2, .invokevirtual 67, 3), (5, .iload_n 3, 1), (6, .if_icmp .ne 101, 3), (9, .aload_n 1, 1), (10, .iload_n 2, 1), (11, .invokevirtual 57, 3), (14, .istore 4, 2), (16, .aload_n 0, 1), (17, .dup, 1), (18, .getfield 84, 3), (21, .aload_n 0, 1), (22, .getfield 27, 3), (25, .aload_n 0, 1), (26, .getfield 15, 3), (29, .iload_n 2, 1), (30, .iaload, 1), (31, .iload 4, 2), (33, .invokevirtual 60, 3), (36, .ifCond .eq 12, 3), (39, .aload_n 0, 1), (40, .getfield 18, 3), (43, .iload_n 2, 1), (44, .iaload, 1), (45, .goto 4, 3), (48, .iconst 0, 1), (49, .isub, 1), (50, .putfield 84, 3), (53, .aload_n 0, 1), (54, .dup, 1), (55, .getfield 84, 3), (58, .aload_n 0, 1), (59, .getfield 27, 3), (62, .aload_n 0, 1), (63, .getfield 15, 3), (66, .iload_n 2, 1), (67, .iaload, 1), (68, .aload_n 0, 1), (69, .getfield 21, 3), (72, .iload_n 2, 1), (73, .iaload, 1), (74, .isub, 1), (75, .iload 4, 2), (77, .invokevirtual 60, 3), (80, .ifCond .eq 19, 3), (83, .aload_n 0, 1), (84, .getfield 18, 3), (87, .iload_n 2, 1), (88, .iaload, 1), (89, .aload_n 0, 1), (90, .getfield 24, 3), (93, .iload_n 2, 1), (94, .iaload, 1), (95, .isub, 1), (96, .goto 4, 3), (99, .iconst 0, 1), (100, .iadd, 1), (101, .putfield 84, 3), (104, .goto 40, 3), (107, .aload_n 1, 1), (108, .getfield 103, 3), (111, .aload_n 1, 1), (112, .getfield 106, 3), (115, .iload_n 2, 1), (116, .iaload, 1), (117, .isub, 1), (118, .aload_n 0, 1), (119, .getfield 27, 3), (122, .getfield 109, 3), (125, .if_icmp .ge 19, 3), (128, .aload_n 0, 1), (129, .dup, 1), (130, .getfield 78, 3), (133, .aload_n 0, 1), (134, .getfield 27, 3), (137, .getfield 112, 3), (140, .iadd, 1), (141, .putfield 78, 3), (144, .return_, 1)]
def mX7_weighLoss : a_Mth := (7, ⟨"BillWall$Sight", "weighLoss", "(LBillWall$Bills;II)V"⟩, prog_9_method_7_code, 5, (Option.none : Option FieldType), 1, 22, (3, 161), ilX7_weighLoss)
def ilX8_init : a_IL := [(0, .aload_n 0, 1), (1, .invokespecial 1, 3), (4, .aload_n 0, 1), (5, .new 7, 3), (8, .dup, 1), (9, .invokespecial 9, 3), (12, .putfield 10, 3), (15, .aload_n 0, 1), (16, .new 7, 3), (19, .dup, 1), (20, .invokespecial 9, 3), (23, .putfield 16, 3), (26, .aload_n 0, 1), (27, .new 19, 3), (30, .dup, 1), (31, .invokespecial 21, 3), (34, .putfield 22, 3), (37, .aload_n 0, 1), (38, .new 26, 3), (41, .dup, 1), (42, .aload_n 0, 1), (43, .getfield 10, 3), (46, .invokespecial 28, 3), (49, .putfield 31, 3), (52, .aload_n 0, 1), (53, .new 35, 3), (56, .dup, 1), (57, .aload_n 0, 1), (58, .getfield 10, 3), (61, .invokespecial 37, 3), (64, .putfield 38, 3), (67, .aload_n 0, 1), (68, .new 35, 3), (71, .dup, 1), (72, .aload_n 0, 1), (73, .getfield 10, 3), (76, .invokespecial 37, 3), (79, .putfield 42, 3), (82, .aload_n 0, 1), (83, .new 45, 3), (86, .dup, 1), (87, .aload_n 0, 1), (88, .getfield 10, 3), (91, .invokespecial 47, 3), (94, .putfield 48, 3), (97, .aload_n 0, 1), (98, .new 52, 3), (101, .dup, 1), (102, .aload_n 0, 1), (103, .getfield 10, 3), (106, .invokespecial 54, 3), (109, .putfield 55, 3), (112, .aload_n 0, 1), (113, .new 59, 3), (116, .dup, 1), (117, .aload_n 0, 1), (118, .getfield 10, 3), (121, .invokespecial 61, 3), (124, .putfield 62, 3), (127, .aload_n 0, 1), (128, .new 66, 3), (131, .dup, 1), (132, .aload_n 0, 1), (133, .getfield 10, 3), (136, .invokespecial 68, 3), (139, .putfield 69, 3), (142, .return_, 1)]
def mX8_init : a_Mth := (8, ⟨"BillWall", "<init>", "()V"⟩, prog_1_method_1_code, 1, (Option.none : Option FieldType), 3, 64, (1, 22), ilX8_init)
def ilX8_feed : a_IL := [(0, .iload_n 1, 1), (1, .iconst 1, 1), (2, .if_icmp .lt 9, 3), (5, .iload_n 1, 1), (6, .bipush 8, 2), (8, .if_icmp .le 6, 3), (11, .ldc 73, 2), (13, .ireturn, 1), (14, .aload_n 0, 1), (15, .getfield 22, 3), (18, .iload_n 1, 1), (19, .lload_n 2, 1), (20, .invokevirtual 74, 3), (23, .ifCond .eq 13, 3), (26, .aload_n 0, 1), (27, .getfield 22, 3), (30, .getfield 78, 3), (33, .goto 5, 3), (36, .ldc 82, 2), (38, .ireturn, 1)]
def mX8_feed : a_Mth := (8, ⟨"BillWall", "feed", "(IJ)I"⟩, prog_1_method_2_code, 4, (Option.some FieldType.int), 1, 24, (2, 160), ilX8_feed)
def ilX8_wall : a_IL := [(0, .aload_n 0, 1), (1, .getfield 22, 3), (4, .aload_n 0, 1), (5, .getfield 16, 3), (8, .invokevirtual 83, 3), (11, .istore_n 1, 1), (12, .aload_n 0, 1), (13, .getfield 22, 3), (16, .iconst 0, 1), (17, .putfield 78, 3), (20, .iload_n 1, 1), (21, .ifCond .ne 14, 3), (24, .bipush (-10), 2), (26, .aload_n 0, 1), (27, .getfield 22, 3), (30, .getfield 87, 3), (33, .isub, 1), (34, .ireturn, 1), (35, .aload_n 0, 1), (36, .getfield 10, 3), (39, .aload_n 0, 1), (40, .getfield 16, 3), (43, .invokevirtual 90, 3), (46, .aload_n 0, 1), (47, .getfield 31, 3), (50, .invokevirtual 93, 3), (53, .aload_n 0, 1), (54, .getfield 69, 3), (57, .invokevirtual 96, 3), (60, .aload_n 0, 1), (61, .getfield 38, 3), (64, .iconst 0, 1), (65, .putfield 99, 3), (68, .aload_n 0, 1), (69, .getfield 42, 3), (72, .iconst 0, 1), (73, .putfield 99, 3), (76, .aload_n 0, 1), (77, .getfield 10, 3), (80, .getfield 103, 3), (83, .ireturn, 1)]
def mX8_wall : a_Mth := (8, ⟨"BillWall", "wall", "()I"⟩, prog_1_method_3_code, 2, (Option.some FieldType.int), 9, 211, (2, 171), ilX8_wall)
def ilX8_fault : a_IL := [(0, .aload_n 0, 1), (1, .getfield 22, 3), (4, .getfield 106, 3), (7, .ireturn, 1)]
def mX8_fault : a_Mth := (8, ⟨"BillWall", "fault", "()I"⟩, prog_1_method_4_code, 1, (Option.some FieldType.int), 0, 0, (3, 85), ilX8_fault)
def ilX8_told : a_IL := [(0, .iload_n 1, 1), (1, .tableswitch 147 0 10 #[59, 67, 75, 83, 91, 99, 107, 115, 123, 131, 139], 59), (60, .aload_n 0, 1), (61, .getfield 10, 3), (64, .getfield 109, 3), (67, .ireturn, 1), (68, .aload_n 0, 1), (69, .getfield 10, 3), (72, .getfield 112, 3), (75, .ireturn, 1), (76, .aload_n 0, 1), (77, .getfield 10, 3), (80, .getfield 115, 3), (83, .ireturn, 1), (84, .aload_n 0, 1), (85, .getfield 10, 3), (88, .getfield 118, 3), (91, .ireturn, 1), (92, .aload_n 0, 1), (93, .getfield 10, 3), (96, .getfield 121, 3), (99, .ireturn, 1), (100, .aload_n 0, 1), (101, .getfield 10, 3), (104, .getfield 124, 3), (107, .ireturn, 1), (108, .aload_n 0, 1), (109, .getfield 10, 3), (112, .getfield 103, 3), (115, .ireturn, 1), (116, .aload_n 0, 1), (117, .getfield 31, 3), (120, .getfield 127, 3), (123, .ireturn, 1), (124, .aload_n 0, 1), (125, .getfield 31, 3), (128, .getfield 130, 3), (131, .ireturn, 1), (132, .aload_n 0, 1), (133, .getfield 22, 3), (136, .getfield 78, 3), (139, .ireturn, 1), (140, .aload_n 0, 1), (141, .getfield 69, 3), (144, .getfield 133, 3), (147, .ireturn, 1), (148, .ldc 73, 2), (150, .ireturn, 1)]
def mX8_told : a_Mth := (8, ⟨"BillWall", "told", "(I)I"⟩, prog_1_method_5_code, 2, (Option.some FieldType.int), 0, 0, (3, 89), ilX8_told)
def ilX8_kind : a_IL := [(0, .aload_n 0, 1), (1, .getfield 10, 3), (4, .iload_n 1, 1), (5, .invokevirtual 134, 3), (8, .ifCond .ne 6, 3), (11, .ldc 138, 2), (13, .ireturn, 1), (14, .iload_n 2, 1), (15, .tableswitch 55 0 2 #[25, 35, 45], 25), (40, .aload_n 0, 1), (41, .getfield 10, 3), (44, .getfield 139, 3), (47, .iload_n 1, 1), (48, .iaload, 1), (49, .ireturn, 1), (50, .aload_n 0, 1), (51, .getfield 10, 3), (54, .getfield 143, 3), (57, .iload_n 1, 1), (58, .iaload, 1), (59, .ireturn, 1), (60, .aload_n 0, 1), (61, .getfield 10, 3), (64, .getfield 146, 3), (67, .iload_n 1, 1), (68, .iaload, 1), (69, .ireturn, 1), (70, .ldc 73, 2), (72, .ireturn, 1)]
def mX8_kind : a_Mth := (8, ⟨"BillWall", "kind", "(II)I"⟩, prog_1_method_6_code, 3, (Option.some FieldType.int), 1, 21, (3, 93), ilX8_kind)
def ilX8_passes : a_IL := [(0, .aload_n 0, 1), (1, .getfield 10, 3), (4, .iload_n 1, 1), (5, .iconst 0, 1), (6, .invokevirtual 149, 3), (9, .ifCond .eq 15, 3), (12, .aload_n 0, 1), (13, .getfield 10, 3), (16, .getfield 153, 3), (19, .iload_n 1, 1), (20, .iaload, 1), (21, .goto 5, 3), (24, .ldc 73, 2), (26, .ireturn, 1)]
def mX8_passes : a_Mth := (8, ⟨"BillWall", "passes", "(I)I"⟩, prog_1_method_7_code, 2, (Option.some FieldType.int), 1, 22, (3, 102), ilX8_passes)
def ilX8_bare : a_IL := [(0, .aload_n 0, 1), (1, .getfield 10, 3), (4, .iload_n 1, 1), (5, .iload_n 2, 1), (6, .invokevirtual 149, 3), (9, .ifCond .ne 6, 3), (12, .ldc 73, 2), (14, .ireturn, 1), (15, .aload_n 0, 1), (16, .getfield 10, 3), (19, .getfield 156, 3), (22, .iload_n 2, 1), (23, .iaload, 1), (24, .iload_n 1, 1), (25, .invokestatic 159, 3), (28, .ifCond .eq 7, 3), (31, .iconst 1, 1), (32, .goto 4, 3), (35, .iconst 0, 1), (36, .ireturn, 1)]
def mX8_bare : a_Mth := (8, ⟨"BillWall", "bare", "(II)I"⟩, prog_1_method_8_code, 3, (Option.some FieldType.int), 1, 22, (3, 110), ilX8_bare)
def ilX8_paste : a_IL := [(0, .aload_n 0, 1), (1, .getfield 10, 3), (4, .iload_n 1, 1), (5, .invokevirtual 134, 3), (8, .ifCond .ne 6, 3), (11, .ldc 138, 2), (13, .ireturn, 1), (14, .aload_n 0, 1), (15, .getfield 10, 3), (18, .iload_n 1, 1), (19, .iload_n 2, 1), (20, .iload_n 3, 1), (21, .invokevirtual 162, 3), (24, .ifCond .ne 6, 3), (27, .ldc 73, 2), (29, .ireturn, 1), (30, .aload_n 0, 1), (31, .getfield 10, 3), (34, .iload_n 1, 1), (35, .iload_n 2, 1), (36, .iload_n 3, 1), (37, .invokevirtual 166, 3), (40, .ifCond .eq 6, 3), (43, .ldc 169, 2), (45, .ireturn, 1), (46, .aload_n 0, 1), (47, .getfield 31, 3), (50, .invokevirtual 170, 3), (53, .ifCond .eq 6, 3), (56, .ldc 82, 2), (58, .ireturn, 1), (59, .aload_n 0, 1), (60, .getfield 48, 3), (63, .aload_n 0, 1), (64, .getfield 31, 3), (67, .invokevirtual 174, 3), (70, .aload_n 0, 1), (71, .getfield 48, 3), (74, .aload_n 0, 1), (75, .getfield 31, 3), (78, .iload_n 1, 1), (79, .iload_n 2, 1), (80, .iload_n 3, 1), (81, .invokevirtual 178, 3), (84, .aload_n 0, 1), (85, .getfield 31, 3), (88, .getfield 182, 3), (91, .aload_n 0, 1), (92, .getfield 10, 3), (95, .getfield 139, 3), (98, .iload_n 1, 1), (99, .iaload, 1), (100, .dup2, 1), (101, .iaload, 1), (102, .aload_n 0, 1), (103, .getfield 48, 3), (106, .getfield 185, 3), (109, .iadd, 1), (110, .iastore, 1), (111, .aload_n 0, 1), (112, .getfield 31, 3), (115, .iload_n 1, 1), (116, .iload_n 2, 1), (117, .iload_n 3, 1), (118, .invokevirtual 188, 3), (121, .aload_n 0, 1), (122, .getfield 31, 3), (125, .getfield 127, 3), (128, .iconst 1, 1), (129, .isub, 1), (130, .ireturn, 1)]
def mX8_paste : a_Mth := (8, ⟨"BillWall", "paste", "(III)I"⟩, prog_1_method_9_code, 4, (Option.some FieldType.int), 3, 76, (3, 115), ilX8_paste)
def ilX8_days : a_IL := [(0, .iload_n 1, 1), (1, .ifCond .lt 10, 3), (4, .iload_n 1, 1), (5, .sipush 999, 3), (8, .if_icmp .le 6, 3), (11, .ldc 73, 2), (13, .ireturn, 1), (14, .aload_n 0, 1), (15, .getfield 31, 3), (18, .dup, 1), (19, .getfield 130, 3), (22, .iload_n 1, 1), (23, .iadd, 1), (24, .putfield 130, 3), (27, .aload_n 0, 1), (28, .getfield 31, 3), (31, .getfield 130, 3), (34, .ireturn, 1)]
def mX8_days : a_Mth := (8, ⟨"BillWall", "days", "(I)I"⟩, prog_1_method_10_code, 2, (Option.some FieldType.int), 0, 0, (3, 191), ilX8_days)
def ilX8_above : a_IL := [(0, .aload_n 0, 1), (1, .getfield 10, 3), (4, .iload_n 1, 1), (5, .iload_n 2, 1), (6, .invokevirtual 149, 3), (9, .ifCond .eq 18, 3), (12, .aload_n 0, 1), (13, .getfield 31, 3), (16, .iload_n 1, 1), (17, .iload_n 2, 1), (18, .invokestatic 192, 3), (21, .invokevirtual 196, 3), (24, .goto 5, 3), (27, .ldc 73, 2), (29, .ireturn, 1)]
def mX8_above : a_Mth := (8, ⟨"BillWall", "above", "(II)I"⟩, prog_1_method_11_code, 3, (Option.some FieldType.int), 2, 42, (3, 195), ilX8_above)
def ilX8_bill : a_IL := [(0, .aload_n 0, 1), (1, .getfield 31, 3), (4, .iload_n 1, 1), (5, .invokevirtual 200, 3), (8, .ifCond .ne 6, 3), (11, .ldc 138, 2), (13, .ireturn, 1), (14, .aload_n 0, 1), (15, .getfield 48, 3), (18, .aload_n 0, 1), (19, .getfield 31, 3), (22, .invokevirtual 174, 3), (25, .iload_n 2, 1), (26, .tableswitch 172 0 8 #[50, 60, 70, 80, 90, 100, 109, 142, 155], 50), (76, .aload_n 0, 1), (77, .getfield 31, 3), (80, .getfield 203, 3), (83, .iload_n 1, 1), (84, .iaload, 1), (85, .ireturn, 1), (86, .aload_n 0, 1), (87, .getfield 31, 3), (90, .getfield 205, 3), (93, .iload_n 1, 1), (94, .iaload, 1), (95, .ireturn, 1), (96, .aload_n 0, 1), (97, .getfield 31, 3), (100, .getfield 207, 3), (103, .iload_n 1, 1), (104, .iaload, 1), (105, .ireturn, 1), (106, .aload_n 0, 1), (107, .getfield 31, 3), (110, .getfield 209, 3), (113, .iload_n 1, 1), (114, .iaload, 1), (115, .ireturn, 1), (116, .aload_n 0, 1), (117, .getfield 48, 3), (120, .getfield 212, 3), (123, .iload_n 1, 1), (124, .iaload, 1), (125, .ireturn, 1), (126, .aload_n 0, 1), (127, .getfield 31, 3), (130, .iload_n 1, 1), (131, .invokevirtual 215, 3), (134, .ireturn, 1), (135, .aload_n 0, 1), (136, .getfield 10, 3), (139, .aload_n 0, 1), (140, .getfield 48, 3), (143, .getfield 212, 3), (146, .iload_n 1, 1), (147, .iaload, 1), (148, .aload_n 0, 1), (149, .getfield 31, 3), (152, .iload_n 1, 1), (153, .invokevirtual 218, 3), (156, .invokevirtual 221, 3), (159, .ifCond .eq 7, 3), (162, .iconst 1, 1), (163, .goto 4, 3), (166, .iconst 0, 1), (167, .ireturn, 1), (168, .aload_n 0, 1), (169, .getfield 48, 3), (172, .aload_n 0, 1), (173, .getfield 31, 3), (176, .iload_n 1, 1), (177, .invokevirtual 224, 3), (180, .ireturn, 1), (181, .aload_n 0, 1), (182, .getfield 31, 3), (185, .iload_n 1, 1), (186, .invokevirtual 228, 3), (189, .ifCond .eq 7, 3), (192, .iconst 1, 1), (193, .goto 4, 3), (196, .iconst 0, 1), (197, .ireturn, 1), (198, .ldc 73, 2), (200, .ireturn, 1)]
def mX8_bill : a_Mth := (8, ⟨"BillWall", "bill", "(II)I"⟩, prog_1_method_12_code, 3, (Option.some FieldType.int), 3, 67, (3, 201), ilX8_bill)
def ilX8_over : a_IL := [(0, .aload_n 0, 1), (1, .getfield 31, 3), (4, .iload_n 1, 1), (5, .invokevirtual 200, 3), (8, .ifCond .eq 14, 3), (11, .aload_n 0, 1), (12, .getfield 31, 3), (15, .iload_n 1, 1), (16, .invokevirtual 231, 3), (19, .goto 5, 3), (22, .ldc 138, 2), (24, .ireturn, 1)]
def mX8_over : a_Mth := (8, ⟨"BillWall", "over", "(I)I"⟩, prog_1_method_13_code, 2, (Option.some FieldType.int), 2, 46, (3, 224), ilX8_over)
def ilX8_free : a_IL := [(0, .aload_n 0, 1), (1, .getfield 31, 3), (4, .iload_n 1, 1), (5, .invokevirtual 200, 3), (8, .ifCond .ne 6, 3), (11, .ldc 138, 2), (13, .ireturn, 1), (14, .aload_n 0, 1), (15, .getfield 31, 3), (18, .iload_n 1, 1), (19, .invokevirtual 228, 3), (22, .ifCond .eq 14, 3), (25, .aload_n 0, 1), (26, .getfield 31, 3), (29, .iload_n 1, 1), (30, .invokevirtual 234, 3), (33, .goto 5, 3), (36, .ldc 169, 2), (38, .ireturn, 1)]
def mX8_free : a_Mth := (8, ⟨"BillWall", "free", "(I)I"⟩, prog_1_method_14_code, 2, (Option.some FieldType.int), 3, 69, (3, 235), ilX8_free)
def ilX8_reveal : a_IL := [(0, .aload_n 0, 1), (1, .getfield 31, 3), (4, .iload_n 1, 1), (5, .invokevirtual 200, 3), (8, .ifCond .ne 6, 3), (11, .ldc 138, 2), (13, .ireturn, 1), (14, .aload_n 0, 1), (15, .getfield 31, 3), (18, .iload_n 1, 1), (19, .invokevirtual 228, 3), (22, .ifCond .eq 19, 3), (25, .aload_n 0, 1), (26, .getfield 31, 3), (29, .iload_n 1, 1), (30, .invokevirtual 234, 3), (33, .invokestatic 237, 3), (36, .bipush 12, 2), (38, .if_icmp .le 6, 3), (41, .ldc 169, 2), (43, .ireturn, 1), (44, .aload_n 0, 1), (45, .getfield 55, 3), (48, .aload_n 0, 1), (49, .getfield 31, 3), (52, .iload_n 1, 1), (53, .invokevirtual 242, 3), (56, .ireturn, 1)]
def mX8_reveal : a_Mth := (8, ⟨"BillWall", "reveal", "(I)I"⟩, prog_1_method_15_code, 2, (Option.some FieldType.int), 4, 101, (4, 4), ilX8_reveal)
def ilX8_peel : a_IL := [(0, .aload_n 0, 1), (1, .getfield 31, 3), (4, .iload_n 1, 1), (5, .invokevirtual 200, 3), (8, .ifCond .ne 6, 3), (11, .ldc 138, 2), (13, .ireturn, 1), (14, .aload_n 0, 1), (15, .getfield 31, 3), (18, .iload_n 1, 1), (19, .invokevirtual 228, 3), (22, .ifCond .eq 14, 3), (25, .aload_n 0, 1), (26, .getfield 31, 3), (29, .iload_n 1, 1), (30, .invokevirtual 231, 3), (33, .ifCond .eq 6, 3), (36, .ldc 169, 2), (38, .ireturn, 1), (39, .aload_n 0, 1), (40, .getfield 31, 3), (43, .iload_n 1, 1), (44, .invokevirtual 245, 3), (47, .ireturn, 1)]
def mX8_peel : a_Mth := (8, ⟨"BillWall", "peel", "(I)I"⟩, prog_1_method_16_code, 2, (Option.some FieldType.int), 3, 68, (4, 40), ilX8_peel)
def ilX8_tear : a_IL := [(0, .aload_n 0, 1), (1, .getfield 10, 3), (4, .iload_n 1, 1), (5, .iload_n 2, 1), (6, .invokevirtual 149, 3), (9, .ifCond .eq 18, 3), (12, .aload_n 0, 1), (13, .getfield 31, 3), (16, .iload_n 1, 1), (17, .iload_n 2, 1), (18, .invokestatic 192, 3), (21, .invokevirtual 248, 3), (24, .goto 5, 3), (27, .ldc 73, 2), (29, .ireturn, 1)]
def mX8_tear : a_Mth := (8, ⟨"BillWall", "tear", "(II)I"⟩, prog_1_method_17_code, 3, (Option.some FieldType.int), 3, 64, (4, 49), ilX8_tear)
def ilX8_rain : a_IL := [(0, .iload_n 1, 1), (1, .ifCond .lt 9, 3), (4, .iload_n 1, 1), (5, .bipush 100, 2), (7, .if_icmp .le 8, 3), (10, .ldc 73, 2), (12, .goto 11, 3), (15, .aload_n 0, 1), (16, .getfield 31, 3), (19, .iload_n 1, 1), (20, .invokevirtual 251, 3), (23, .ireturn, 1)]
def mX8_rain : a_Mth := (8, ⟨"BillWall", "rain", "(I)I"⟩, prog_1_method_18_code, 2, (Option.some FieldType.int), 4, 89, (4, 57), ilX8_rain)
def ilX8_owner : a_IL := [(0, .iload_n 1, 1), (1, .ifCond .lt 9, 3), (4, .iload_n 1, 1), (5, .bipush 6, 2), (7, .if_icmp .lt 6, 3), (10, .ldc 138, 2), (12, .ireturn, 1), (13, .iload_n 2, 1), (14, .tableswitch 69 0 2 #[26, 50, 60], 26), (40, .aload_n 0, 1), (41, .getfield 48, 3), (44, .aload_n 0, 1), (45, .getfield 31, 3), (48, .invokevirtual 174, 3), (51, .aload_n 0, 1), (52, .getfield 48, 3), (55, .aload_n 0, 1), (56, .getfield 31, 3), (59, .iload_n 1, 1), (60, .invokevirtual 254, 3), (63, .ireturn, 1), (64, .aload_n 0, 1), (65, .getfield 31, 3), (68, .getfield 182, 3), (71, .iload_n 1, 1), (72, .iaload, 1), (73, .ireturn, 1), (74, .aload_n 0, 1), (75, .getfield 31, 3), (78, .iload_n 1, 1), (79, .invokevirtual 257, 3), (82, .ireturn, 1), (83, .ldc 73, 2), (85, .ireturn, 1)]
def mX8_owner : a_Mth := (8, ⟨"BillWall", "owner", "(II)I"⟩, prog_1_method_19_code, 3, (Option.some FieldType.int), 3, 68, (4, 74), ilX8_owner)
def ilX8_show : a_IL := [(0, .aload_n 0, 1), (1, .getfield 10, 3), (4, .iload_n 1, 1), (5, .invokevirtual 134, 3), (8, .ifCond .ne 6, 3), (11, .ldc 138, 2), (13, .ireturn, 1), (14, .aload_n 0, 1), (15, .getfield 10, 3), (18, .iload_n 1, 1), (19, .iload_n 2, 1), (20, .iload_n 3, 1), (21, .invokevirtual 162, 3), (24, .ifCond .ne 6, 3), (27, .ldc 73, 2), (29, .ireturn, 1), (30, .aload_n 0, 1), (31, .getfield 69, 3), (34, .getfield 133, 3), (37, .bipush 10, 2), (39, .if_icmp .lt 6, 3), (42, .ldc 82, 2), (44, .ireturn, 1), (45, .aload_n 0, 1), (46, .getfield 69, 3), (49, .iload_n 1, 1), (50, .iload_n 2, 1), (51, .iload_n 3, 1), (52, .invokevirtual 260, 3), (55, .aload_n 0, 1), (56, .getfield 69, 3), (59, .getfield 133, 3), (62, .iconst 1, 1), (63, .isub, 1), (64, .ireturn, 1)]
def mX8_show : a_Mth := (8, ⟨"BillWall", "show", "(III)I"⟩, prog_1_method_20_code, 4, (Option.some FieldType.int), 2, 46, (4, 89), ilX8_show)
def ilX8_look : a_IL := [(0, .iload_n 3, 1), (1, .iconst (-1), 1), (2, .if_icmp .eq 17, 3), (5, .aload_n 0, 1), (6, .getfield 69, 3), (9, .iload_n 3, 1), (10, .invokevirtual 263, 3), (13, .ifCond .ne 6, 3), (16, .ldc 138, 2), (18, .ireturn, 1), (19, .aload_n 0, 1), (20, .getfield 10, 3), (23, .iload_n 1, 1), (24, .iload_n 2, 1), (25, .invokevirtual 149, 3), (28, .ifCond .ne 6, 3), (31, .ldc 73, 2), (33, .ireturn, 1), (34, .aload_n 0, 1), (35, .getfield 69, 3), (38, .getfield 264, 3), (41, .iload_n 1, 1), (42, .iload_n 2, 1), (43, .invokestatic 192, 3), (46, .iload_n 3, 1), (47, .iastore, 1), (48, .iconst 1, 1), (49, .ireturn, 1)]
def mX8_look : a_Mth := (8, ⟨"BillWall", "look", "(III)I"⟩, prog_1_method_21_code, 4, (Option.some FieldType.int), 1, 22, (4, 98), ilX8_look)
def ilX8_burn : a_IL := [(0, .aload_n 0, 1), (1, .getfield 69, 3), (4, .getfield 133, 3), (7, .istore_n 1, 1), (8, .aload_n 0, 1), (9, .getfield 69, 3), (12, .invokevirtual 96, 3), (15, .iload_n 1, 1), (16, .ireturn, 1)]
def mX8_burn : a_Mth := (8, ⟨"BillWall", "burn", "()I"⟩, prog_1_method_22_code, 2, (Option.some FieldType.int), 2, 43, (4, 106), ilX8_burn)
def ilX8_orders : a_IL := [(0, .aload_n 0, 1), (1, .getfield 69, 3), (4, .invokevirtual 267, 3), (7, .ireturn, 1)]
def mX8_orders : a_Mth := (8, ⟨"BillWall", "orders", "()I"⟩, prog_1_method_23_code, 1, (Option.some FieldType.int), 3, 69, (4, 110), ilX8_orders)
def ilX8_order : a_IL := [(0, .iload_n 1, 1), (1, .ifCond .ge 8, 3), (4, .ldc 73, 2), (6, .goto 11, 3), (9, .aload_n 0, 1), (10, .getfield 69, 3), (13, .iload_n 1, 1), (14, .invokevirtual 271, 3), (17, .ireturn, 1)]
def mX8_order : a_Mth := (8, ⟨"BillWall", "order", "(I)I"⟩, prog_1_method_24_code, 2, (Option.some FieldType.int), 4, 89, (4, 123), ilX8_order)
def ilX8_surely : a_IL := [(0, .iload_n 1, 1), (1, .iload_n 2, 1), (2, .if_icmp .eq 25, 3), (5, .aload_n 0, 1), (6, .getfield 69, 3), (9, .iload_n 1, 1), (10, .invokevirtual 263, 3), (13, .ifCond .eq 14, 3), (16, .aload_n 0, 1), (17, .getfield 69, 3), (20, .iload_n 2, 1), (21, .invokevirtual 263, 3), (24, .ifCond .ne 6, 3), (27, .ldc 138, 2), (29, .ireturn, 1), (30, .aload_n 0, 1), (31, .getfield 69, 3), (34, .iload_n 1, 1), (35, .iload_n 2, 1), (36, .invokevirtual 274, 3), (39, .ifCond .eq 7, 3), (42, .iconst 1, 1), (43, .goto 4, 3), (46, .iconst 0, 1), (47, .ireturn, 1)]
def mX8_surely : a_Mth := (8, ⟨"BillWall", "surely", "(II)I"⟩, prog_1_method_25_code, 3, (Option.some FieldType.int), 4, 92, (4, 139), ilX8_surely)
def ilX8_best : a_IL := [(0, .aload_n 0, 1), (1, .getfield 10, 3), (4, .iload_n 1, 1), (5, .invokevirtual 134, 3), (8, .ifCond .ne 6, 3), (11, .ldc 138, 2), (13, .ireturn, 1), (14, .iload_n 2, 1), (15, .ifCond .lt 8, 3), (18, .iload_n 2, 1), (19, .iconst 2, 1), (20, .if_icmp .le 6, 3), (23, .ldc 73, 2), (25, .ireturn, 1), (26, .aload_n 0, 1), (27, .getfield 31, 3), (30, .invokevirtual 170, 3), (33, .ifCond .eq 6, 3), (36, .ldc 169, 2), (38, .ireturn, 1), (39, .aload_n 0, 1), (40, .getfield 62, 3), (43, .aload_n 0, 1), (44, .getfield 31, 3), (47, .iload_n 1, 1), (48, .invokevirtual 277, 3), (51, .aload_n 0, 1), (52, .getfield 62, 3), (55, .getfield 281, 3), (58, .ifCond .ne 6, 3), (61, .ldc 169, 2), (63, .ireturn, 1), (64, .iload_n 2, 1), (65, .lookupswitch 43 #[(0, 27), (1, 35)], 27), (92, .aload_n 0, 1), (93, .getfield 62, 3), (96, .getfield 284, 3), (99, .ireturn, 1), (100, .aload_n 0, 1), (101, .getfield 62, 3), (104, .getfield 287, 3), (107, .ireturn, 1), (108, .aload_n 0, 1), (109, .getfield 62, 3), (112, .getfield 290, 3), (115, .ireturn, 1)]
def mX8_best : a_Mth := (8, ⟨"BillWall", "best", "(II)I"⟩, prog_1_method_26_code, 3, (Option.some FieldType.int), 4, 100, (4, 147), ilX8_best)
def ilX8_two : a_IL := [(0, .aload_n 0, 1), (1, .getfield 10, 3), (4, .iload_n 1, 1), (5, .invokevirtual 134, 3), (8, .ifCond .eq 14, 3), (11, .aload_n 0, 1), (12, .getfield 10, 3), (15, .iload_n 2, 1), (16, .invokevirtual 134, 3), (19, .ifCond .ne 6, 3), (22, .ldc 138, 2), (24, .ireturn, 1), (25, .iload_n 3, 1), (26, .ifCond .lt 8, 3), (29, .iload_n 3, 1), (30, .iconst 4, 1), (31, .if_icmp .le 6, 3), (34, .ldc 73, 2), (36, .ireturn, 1), (37, .aload_n 0, 1), (38, .getfield 10, 3), (41, .getfield 139, 3), (44, .iload_n 1, 1), (45, .iaload, 1), (46, .aload_n 0, 1), (47, .getfield 10, 3), (50, .getfield 139, 3), (53, .iload_n 2, 1), (54, .iaload, 1), (55, .if_icmp .ne 15, 3), (58, .aload_n 0, 1), (59, .getfield 31, 3), (62, .getfield 127, 3), (65, .bipush 18, 2), (67, .if_icmp .le 6, 3), (70, .ldc 169, 2), (72, .ireturn, 1), (73, .aload_n 0, 1), (74, .getfield 62, 3), (77, .aload_n 0, 1), (78, .getfield 31, 3), (81, .iload_n 1, 1), (82, .iload_n 2, 1), (83, .invokevirtual 293, 3), (86, .aload_n 0, 1), (87, .getfield 62, 3), (90, .getfield 281, 3), (93, .ifCond .ne 6, 3), (96, .ldc 169, 2), (98, .ireturn, 1), (99, .iload_n 3, 1), (100, .tableswitch 64 0 3 #[32, 40, 48, 56], 32), (132, .aload_n 0, 1), (133, .getfield 62, 3), (136, .getfield 284, 3), (139, .ireturn, 1), (140, .aload_n 0, 1), (141, .getfield 62, 3), (144, .getfield 287, 3), (147, .ireturn, 1), (148, .aload_n 0, 1), (149, .getfield 62, 3), (152, .getfield 297, 3), (155, .ireturn, 1), (156, .aload_n 0, 1), (157, .getfield 62, 3), (160, .getfield 300, 3), (163, .ireturn, 1), (164, .aload_n 0, 1), (165, .getfield 62, 3), (168, .getfield 290, 3), (171, .ireturn, 1)]
def mX8_two : a_Mth := (8, ⟨"BillWall", "two", "(III)I"⟩, prog_1_method_27_code, 4, (Option.some FieldType.int), 5, 128, (4, 162), ilX8_two)
def ilX8_rivals : a_IL := [(0, .aload_n 0, 1), (1, .getfield 10, 3), (4, .iload_n 1, 1), (5, .invokevirtual 134, 3), (8, .ifCond .eq 14, 3), (11, .aload_n 0, 1), (12, .getfield 10, 3), (15, .iload_n 2, 1), (16, .invokevirtual 134, 3), (19, .ifCond .ne 6, 3), (22, .ldc 138, 2), (24, .ireturn, 1), (25, .iload_n 3, 1), (26, .iconst 1, 1), (27, .if_icmp .lt 20, 3), (30, .iload_n 3, 1), (31, .bipush 12, 2), (33, .if_icmp .gt 14, 3), (36, .iload 4, 2), (38, .ifCond .lt 9, 3), (41, .iload 4, 2), (43, .iconst 2, 1), (44, .if_icmp .le 6, 3), (47, .ldc 73, 2), (49, .ireturn, 1), (50, .aload_n 0, 1), (51, .getfield 62, 3), (54, .aload_n 0, 1), (55, .getfield 31, 3), (58, .iload_n 1, 1), (59, .iload_n 2, 1), (60, .iload_n 3, 1), (61, .invokevirtual 303, 3), (64, .iload 4, 2), (66, .lookupswitch 44 #[(0, 26), (1, 35)], 26), (92, .aload_n 0, 1), (93, .getfield 62, 3), (96, .iload_n 1, 1), (97, .invokevirtual 306, 3), (100, .ireturn, 1), (101, .aload_n 0, 1), (102, .getfield 62, 3), (105, .iload_n 2, 1), (106, .invokevirtual 306, 3), (109, .ireturn, 1), (110, .aload_n 0, 1), (111, .getfield 62, 3), (114, .getfield 309, 3), (117, .ireturn, 1)]
def mX8_rivals : a_Mth := (8, ⟨"BillWall", "rivals", "(IIII)I"⟩, prog_1_method_28_code, 5, (Option.some FieldType.int), 6, 146, (4, 186), ilX8_rivals)
def ilX8_seed : a_IL := [(0, .iload_n 1, 1), (1, .ifCond .ge 6, 3), (4, .ldc 73, 2), (6, .ireturn, 1), (7, .aload_n 0, 1), (8, .getfield 31, 3), (11, .getfield 312, 3), (14, .istore_n 2, 1), (15, .aload_n 0, 1), (16, .getfield 31, 3), (19, .iload_n 1, 1), (20, .putfield 312, 3), (23, .iload_n 2, 1), (24, .ireturn, 1)]
def mX8_seed : a_Mth := (8, ⟨"BillWall", "seed", "(I)I"⟩, prog_1_method_29_code, 3, (Option.some FieldType.int), 0, 0, (4, 205), ilX8_seed)
def ilX8_keep : a_IL := [(0, .iload_n 1, 1), (1, .ifCond .lt 8, 3), (4, .iload_n 1, 1), (5, .iconst 1, 1), (6, .if_icmp .le 6, 3), (9, .ldc 138, 2), (11, .ireturn, 1), (12, .aload_n 0, 1), (13, .iload_n 1, 1), (14, .invokevirtual 315, 3), (17, .astore_n 2, 1), (18, .aload_n 2, 1), (19, .getfield 319, 3), (22, .aload_n 0, 1), (23, .getfield 31, 3), (26, .invokevirtual 320, 3), (29, .aload_n 2, 1), (30, .iconst 1, 1), (31, .putfield 99, 3), (34, .iconst 1, 1), (35, .ireturn, 1)]
def mX8_keep : a_Mth := (8, ⟨"BillWall", "keep", "(I)I"⟩, prog_1_method_30_code, 3, (Option.some FieldType.int), 2, 47, (4, 209), ilX8_keep)
def ilX8_goBack : a_IL := [(0, .iload_n 1, 1), (1, .ifCond .lt 8, 3), (4, .iload_n 1, 1), (5, .iconst 1, 1), (6, .if_icmp .le 6, 3), (9, .ldc 138, 2), (11, .ireturn, 1), (12, .aload_n 0, 1), (13, .iload_n 1, 1), (14, .invokevirtual 315, 3), (17, .astore_n 2, 1), (18, .aload_n 2, 1), (19, .getfield 99, 3), (22, .ifCond .ne 6, 3), (25, .ldc 169, 2), (27, .ireturn, 1), (28, .aload_n 0, 1), (29, .getfield 31, 3), (32, .aload_n 2, 1), (33, .getfield 319, 3), (36, .invokevirtual 320, 3), (39, .iconst 1, 1), (40, .ireturn, 1)]
def mX8_goBack : a_Mth := (8, ⟨"BillWall", "goBack", "(I)I"⟩, prog_1_method_31_code, 3, (Option.some FieldType.int), 2, 47, (4, 218), ilX8_goBack)
def ilX8_imageOf : a_IL := [(0, .iload_n 1, 1), (1, .ifCond .ne 10, 3), (4, .aload_n 0, 1), (5, .getfield 38, 3), (8, .goto 7, 3), (11, .aload_n 0, 1), (12, .getfield 42, 3), (15, .areturn, 1)]
def mX8_imageOf : a_Mth := (8, ⟨"BillWall", "imageOf", "(I)LBillWall$Image;"⟩, prog_1_method_32_code, 2, (Option.some (FieldType.object "BillWall$Image")), 0, 0, (4, 213), ilX8_imageOf)
def ilX8_isIn : a_IL := [(0, .iload_n 0, 1), (1, .iload_n 1, 1), (2, .ishr, 1), (3, .iconst 1, 1), (4, .iand, 1), (5, .ifCond .eq 7, 3), (8, .iconst 1, 1), (9, .goto 4, 3), (12, .iconst 0, 1), (13, .ireturn, 1)]
def mX8_isIn : a_Mth := (8, ⟨"BillWall", "isIn", "(II)Z"⟩, prog_1_method_33_code, 2, (Option.some FieldType.boolean), 0, 0, (3, 24), ilX8_isIn)
def ilX8_cellAt : a_IL := [(0, .iload_n 1, 1), (1, .bipush 16, 2), (3, .imul, 1), (4, .iload_n 0, 1), (5, .iadd, 1), (6, .ireturn, 1)]
def mX8_cellAt : a_Mth := (8, ⟨"BillWall", "cellAt", "(II)I"⟩, prog_1_method_34_code, 2, (Option.some FieldType.int), 0, 0, (3, 136), ilX8_cellAt)
def ilX9_init : a_IL := [(0, .aload_n 0, 1), (1, .invokespecial 1, 3), (4, .aload_n 0, 1), (5, .sipush 800, 3), (8, .newarray .int, 2), (10, .putfield 7, 3), (13, .aload_n 0, 1), (14, .iconst 2, 1), (15, .newarray .boolean, 2), (17, .putfield 13, 3), (20, .aload_n 0, 1), (21, .bipush 10, 2), (23, .newarray .int, 2), (25, .putfield 17, 3), (28, .aload_n 0, 1), (29, .bipush 32, 2), (31, .newarray .int, 2), (33, .putfield 20, 3), (36, .aload_n 0, 1), (37, .sipush 256, 3), (40, .newarray .boolean, 2), (42, .putfield 23, 3), (45, .aload_n 0, 1), (46, .bipush 24, 2), (48, .newarray .int, 2), (50, .putfield 26, 3), (53, .aload_n 0, 1), (54, .bipush 24, 2), (56, .newarray .int, 2), (58, .putfield 29, 3), (61, .aload_n 0, 1), (62, .bipush 24, 2), (64, .newarray .int, 2), (66, .putfield 32, 3), (69, .aload_n 0, 1), (70, .sipush 300, 3), (73, .newarray .int, 2), (75, .putfield 35, 3), (78, .aload_n 0, 1), (79, .iconst (-1), 1), (80, .putfield 38, 3), (83, .aload_n 0, 1), (84, .bipush 20, 2), (86, .newarray .int, 2), (88, .putfield 42, 3), (91, .aload_n 0, 1), (92, .bipush 20, 2), (94, .newarray .int, 2), (96, .putfield 45, 3), (99, .aload_n 0, 1), (100, .bipush 20, 2), (102, .newarray .int, 2), (104, .putfield 48, 3), (107, .aload_n 0, 1), (108, .bipush 20, 2), (110, .newarray .int, 2), (112, .putfield 51, 3), (115, .aload_n 0, 1), (116, .bipush 10, 2), (118, .newarray .int, 2), (120, .putfield 54, 3), (123, .aload_n 0, 1), (124, .bipush 10, 2), (126, .newarray .int, 2), (128, .putfield 57, 3), (131, .aload_n 0, 1), (132, .bipush 10, 2), (134, .newarray .int, 2), (136, .putfield 60, 3), (139, .aload_n 0, 1), (140, .sipush 128, 3), (143, .newarray .int, 2), (145, .putfield 63, 3), (148, .aload_n 0, 1), (149, .bipush 10, 2), (151, .newarray .int, 2), (153, .putfield 66, 3), (156, .aload_n 0, 1), (157, .sipush 1024, 3), (160, .newarray .int, 2), (162, .putfield 69, 3), (165, .iconst 0, 1), (166, .istore_n 1, 1), (167, .iload_n 1, 1), (168, .iconst 5, 1), (169, .if_icmp .ge 19, 3), (172, .aload_n 0, 1), (173, .getfield 17, 3), (176, .iload_n 1, 1), (177, .iload_n 1, 1), (178, .invokestatic 72, 3), (181, .iastore, 1), (182, .iinc 1 1, 3), (185, .goto (-18), 3), (188, .iconst 0, 1), (189, .istore_n 1, 1), (190, .iload_n 1, 1), (191, .bipush 16, 2), (193, .if_icmp .ge 16, 3), (196, .aload_n 0, 1), (197, .getfield 20, 3), (200, .iload_n 1, 1), (201, .iconst 1, 1), (202, .iastore, 1), (203, .iinc 1 1, 3), (206, .goto (-16), 3), (209, .return_, 1)]
def mX9_init : a_Mth := (9, ⟨"BillWallModel", "<init>", "()V"⟩, prog_11_method_1_code, 2, (Option.none : Option FieldType), 1, 20, (4, 223), ilX9_init)
def ilX9_in : a_IL := [(0, .lload_n 0, 1), (1, .lload_n 2, 1), (2, .lcmp, 1), (3, .ifCond .lt 14, 3), (6, .lload_n 0, 1), (7, .lload 4, 2), (9, .lcmp, 1), (10, .ifCond .gt 7, 3), (13, .iconst 1, 1), (14, .goto 4, 3), (17, .iconst 0, 1), (18, .ireturn, 1)]
def mX9_in : a_Mth := (9, ⟨"BillWallModel", "in", "(JJJ)Z"⟩, prog_11_method_3_code, 6, (Option.some FieldType.boolean), 0, 0, (5, 105), ilX9_in)
def ilX9_one : a_IL := [(0, .iload_n 0, 1), (1, .ifCond .eq 7, 3), (4, .iconst 1, 1), (5, .goto 4, 3), (8, .iconst 0, 1), (9, .ireturn, 1)]
def mX9_one : a_Mth := (9, ⟨"BillWallModel", "one", "(Z)I"⟩, prog_11_method_4_code, 1, (Option.some FieldType.int), 0, 0, (5, 200), ilX9_one)
def ilX9_has : a_IL := [(0, .iload_n 0, 1), (1, .iload_n 1, 1), (2, .ishr, 1), (3, .iconst 1, 1), (4, .iand, 1), (5, .iconst 1, 1), (6, .if_icmp .ne 7, 3), (9, .iconst 1, 1), (10, .goto 4, 3), (13, .iconst 0, 1), (14, .ireturn, 1)]
def mX9_has : a_Mth := (9, ⟨"BillWallModel", "has", "(II)Z"⟩, prog_11_method_5_code, 2, (Option.some FieldType.boolean), 0, 0, (5, 145), ilX9_has)
def ilX9_ones : a_IL := [(0, .iconst 0, 1), (1, .istore_n 1, 1), (2, .iconst 0, 1), (3, .istore_n 2, 1), (4, .iload_n 2, 1), (5, .bipush 20, 2), (7, .if_icmp .ge 17, 3), (10, .iload_n 1, 1), (11, .iload_n 0, 1), (12, .iload_n 2, 1), (13, .ishr, 1), (14, .iconst 1, 1), (15, .iand, 1), (16, .iadd, 1), (17, .istore_n 1, 1), (18, .iinc 2 1, 3), (21, .goto (-17), 3), (24, .iload_n 1, 1), (25, .ireturn, 1)]
def mX9_ones : a_Mth := (9, ⟨"BillWallModel", "ones", "(I)I"⟩, prog_11_method_6_code, 3, (Option.some FieldType.int), 0, 0, (6, 53), ilX9_ones)
def ilX9_untold : a_IL := [(0, .iload_n 0, 1), (1, .ifCond .ne 8, 3), (4, .bipush 16, 2), (6, .goto 34, 3), (9, .iload_n 0, 1), (10, .iconst 1, 1), (11, .if_icmp .ne 8, 3), (14, .bipush 8, 2), (16, .goto 24, 3), (19, .iload_n 0, 1), (20, .iconst 2, 1), (21, .if_icmp .ne 7, 3), (24, .iconst 3, 1), (25, .goto 15, 3), (28, .iload_n 0, 1), (29, .iconst 3, 1), (30, .if_icmp .ne 8, 3), (33, .bipush 10, 2), (35, .goto 5, 3), (38, .bipush 60, 2), (40, .ireturn, 1)]
def mX9_untold : a_Mth := (9, ⟨"BillWallModel", "untold", "(I)I"⟩, prog_11_method_7_code, 1, (Option.some FieldType.int), 0, 0, (4, 227), ilX9_untold)
def ilX9_feed : a_IL := [(0, .iload_n 1, 1), (1, .i2l, 1), (2, .lconst 1, 1), (3, .ldc2_w 76, 3), (6, .invokestatic 78, 3), (9, .ifCond .ne 6, 3), (12, .ldc 82, 2), (14, .ireturn, 1), (15, .aload_n 0, 1), (16, .getfield 83, 3), (19, .iload_n 1, 1), (20, .iadd, 1), (21, .sipush 300, 3), (24, .if_icmp .le 6, 3), (27, .ldc 86, 2), (29, .ireturn, 1), (30, .iload_n 1, 1), (31, .iconst 1, 1), (32, .isub, 1), (33, .istore 4, 2), (35, .iload 4, 2), (37, .ifCond .lt 40, 3), (40, .aload_n 0, 1), (41, .getfield 35, 3), (44, .aload_n 0, 1), (45, .getfield 83, 3), (48, .lload_n 2, 1), (49, .bipush 8, 2), (51, .iload 4, 2), (53, .imul, 1), (54, .lshr, 1), (55, .ldc2_w 87, 3), (58, .land, 1), (59, .l2i, 1), (60, .iastore, 1), (61, .aload_n 0, 1), (62, .dup, 1), (63, .getfield 83, 3), (66, .iconst 1, 1), (67, .iadd, 1), (68, .putfield 83, 3), (71, .iinc 4 (-1), 3), (74, .goto (-39), 3), (77, .aload_n 0, 1), (78, .getfield 83, 3), (81, .ireturn, 1)]
def mX9_feed : a_Mth := (9, ⟨"BillWallModel", "feed", "(IJ)I"⟩, prog_11_method_8_code, 5, (Option.some FieldType.int), 1, 25, (5, 101), ilX9_feed)
def ilX9_here : a_IL := [(0, .aload_n 0, 1), (1, .getfield 89, 3), (4, .aload_n 0, 1), (5, .getfield 83, 3), (8, .if_icmp .ge 30, 3), (11, .aload_n 0, 1), (12, .getfield 35, 3), (15, .aload_n 0, 1), (16, .getfield 89, 3), (19, .iaload, 1), (20, .bipush 32, 2), (22, .if_icmp .ne 16, 3), (25, .aload_n 0, 1), (26, .dup, 1), (27, .getfield 89, 3), (30, .iconst 1, 1), (31, .iadd, 1), (32, .putfield 89, 3), (35, .goto (-35), 3), (38, .aload_n 0, 1), (39, .getfield 89, 3), (42, .aload_n 0, 1), (43, .getfield 83, 3), (46, .if_icmp .ge 15, 3), (49, .aload_n 0, 1), (50, .getfield 35, 3), (53, .aload_n 0, 1), (54, .getfield 89, 3), (57, .iaload, 1), (58, .goto 4, 3), (61, .iconst (-1), 1), (62, .ireturn, 1)]
def mX9_here : a_Mth := (9, ⟨"BillWallModel", "here", "()I"⟩, prog_11_method_9_code, 1, (Option.some FieldType.int), 0, 0, (5, 116), ilX9_here)
def ilX9_want : a_IL := [(0, .iload_n 1, 1), (1, .ifCond .ne 20, 3), (4, .aload_n 0, 1), (5, .getfield 92, 3), (8, .ifCond .ne 13, 3), (11, .aload_n 0, 1), (12, .iload_n 2, 1), (13, .putfield 92, 3), (16, .aload_n 0, 1), (17, .iload_n 3, 1), (18, .putfield 38, 3), (21, .aload_n 0, 1), (22, .getfield 92, 3), (25, .ifCond .ne 7, 3), (28, .iconst 1, 1), (29, .goto 4, 3), (32, .iconst 0, 1), (33, .ireturn, 1)]
def mX9_want : a_Mth := (9, ⟨"BillWallModel", "want", "(ZII)Z"⟩, prog_11_method_10_code, 4, (Option.some FieldType.boolean), 0, 0, (5, 138), ilX9_want)
def ilX9_takeWord : a_IL := [(0, .aload_n 0, 1), (1, .invokevirtual 95, 3), (4, .istore_n 1, 1), (5, .aload_n 0, 1), (6, .aload_n 0, 1), (7, .getfield 89, 3), (10, .putfield 99, 3), (13, .aload_n 0, 1), (14, .getfield 89, 3), (17, .aload_n 0, 1), (18, .getfield 83, 3), (21, .if_icmp .ge 38, 3), (24, .aload_n 0, 1), (25, .getfield 35, 3), (28, .aload_n 0, 1), (29, .getfield 89, 3), (32, .iaload, 1), (33, .i2l, 1), (34, .ldc2_w 102, 3), (37, .ldc2_w 104, 3), (40, .invokestatic 78, 3), (43, .ifCond .eq 16, 3), (46, .aload_n 0, 1), (47, .dup, 1), (48, .getfield 89, 3), (51, .iconst 1, 1), (52, .iadd, 1), (53, .putfield 89, 3), (56, .goto (-43), 3), (59, .aload_n 0, 1), (60, .aload_n 0, 1), (61, .getfield 89, 3), (64, .aload_n 0, 1), (65, .getfield 99, 3), (68, .isub, 1), (69, .putfield 106, 3), (72, .return_, 1)]
def mX9_takeWord : a_Mth := (9, ⟨"BillWallModel", "takeWord", "()V"⟩, prog_11_method_11_code, 2, (Option.none : Option FieldType), 1, 25, (5, 124), ilX9_takeWord)
def ilX9_isWord : a_IL := [(0, .aload_n 0, 1), (1, .getfield 106, 3), (4, .iload_n 1, 1), (5, .if_icmp .ne 7, 3), (8, .iconst 1, 1), (9, .goto 4, 3), (12, .iconst 0, 1), (13, .istore 7, 2), (15, .iconst 0, 1), (16, .istore 8, 2), (18, .iload 8, 2), (20, .iload_n 1, 1), (21, .if_icmp .ge 79, 3), (24, .iload 7, 2), (26, .ifCond .eq 74, 3), (29, .aload_n 0, 1), (30, .getfield 35, 3), (33, .aload_n 0, 1), (34, .getfield 99, 3), (37, .iload 8, 2), (39, .iadd, 1), (40, .iaload, 1), (41, .iload 8, 2), (43, .ifCond .ne 7, 3), (46, .iload_n 2, 1), (47, .goto 37, 3), (50, .iload 8, 2), (52, .iconst 1, 1), (53, .if_icmp .ne 7, 3), (56, .iload_n 3, 1), (57, .goto 27, 3), (60, .iload 8, 2), (62, .iconst 2, 1), (63, .if_icmp .ne 8, 3), (66, .iload 4, 2), (68, .goto 16, 3), (71, .iload 8, 2), (73, .iconst 3, 1), (74, .if_icmp .ne 8, 3), (77, .iload 5, 2), (79, .goto 5, 3), (82, .iload 6, 2), (84, .if_icmp .ne 7, 3), (87, .iconst 1, 1), (88, .goto 4, 3), (91, .iconst 0, 1), (92, .istore 7, 2), (94, .iinc 8 1, 3), (97, .goto (-79), 3), (100, .iload 7, 2), (102, .ireturn, 1)]
def mX9_isWord : a_Mth := (9, ⟨"BillWallModel", "isWord", "(IIIIII)Z"⟩, prog_11_method_12_code, 9, (Option.some FieldType.boolean), 0, 0, (5, 130), ilX9_isWord)
def ilX9_takeNumber : a_IL := [(0, .aload_n 0, 1), (1, .getfield 92, 3), (4, .ifCond .le 5, 3), (7, .iconst 0, 1), (8, .ireturn, 1), (9, .aload_n 0, 1), (10, .invokevirtual 95, 3), (13, .istore_n 3, 1), (14, .aload_n 0, 1), (15, .aload_n 0, 1), (16, .getfield 89, 3), (19, .putfield 99, 3), (22, .aload_n 0, 1), (23, .iload_n 3, 1), (24, .i2l, 1), (25, .ldc2_w 109, 3), (28, .ldc2_w 111, 3), (31, .invokestatic 78, 3), (34, .iconst 1, 1), (35, .aload_n 0, 1), (36, .getfield 89, 3), (39, .invokevirtual 113, 3), (42, .ifCond .ne 5, 3), (45, .iconst 0, 1), (46, .ireturn, 1), (47, .iconst 0, 1), (48, .istore 4, 2), (50, .aload_n 0, 1), (51, .getfield 89, 3), (54, .aload_n 0, 1), (55, .getfield 83, 3), (58, .if_icmp .ge 70, 3), (61, .aload_n 0, 1), (62, .getfield 35, 3), (65, .aload_n 0, 1), (66, .getfield 89, 3), (69, .iaload, 1), (70, .i2l, 1), (71, .ldc2_w 109, 3), (74, .ldc2_w 111, 3), (77, .invokestatic 78, 3), (80, .ifCond .eq 48, 3), (83, .iload 4, 2), (85, .ldc 117, 2), (87, .if_icmp .le 8, 3), (90, .iload 4, 2), (92, .goto 21, 3), (95, .bipush 10, 2), (97, .iload 4, 2), (99, .imul, 1), (100, .aload_n 0, 1), (101, .getfield 35, 3), (104, .aload_n 0, 1), (105, .getfield 89, 3), (108, .iaload, 1), (109, .iadd, 1), (110, .bipush 48, 2), (112, .isub, 1), (113, .istore 4, 2), (115, .aload_n 0, 1), (116, .dup, 1), (117, .getfield 89, 3), (120, .iconst 1, 1), (121, .iadd, 1), (122, .putfield 89, 3), (125, .goto (-75), 3), (128, .aload_n 0, 1), (129, .aload_n 0, 1), (130, .getfield 89, 3), (133, .aload_n 0, 1), (134, .getfield 99, 3), (137, .isub, 1), (138, .iconst 4, 1), (139, .if_icmp .ge 20, 3), (142, .iload 4, 2), (144, .i2l, 1), (145, .iload_n 1, 1), (146, .i2l, 1), (147, .iload_n 2, 1), (148, .i2l, 1), (149, .invokestatic 78, 3), (152, .ifCond .eq 7, 3), (155, .iconst 1, 1), (156, .goto 4, 3), (159, .iconst 0, 1), (160, .iconst 2, 1), (161, .aload_n 0, 1), (162, .getfield 99, 3), (165, .invokevirtual 113, 3), (168, .istore 5, 2), (170, .iload 4, 2), (172, .ireturn, 1)]
def mX9_takeNumber : a_Mth := (9, ⟨"BillWallModel", "takeNumber", "(II)I"⟩, prog_11_method_13_code, 6, (Option.some FieldType.int), 1, 25, (5, 149), ilX9_takeNumber)
def ilX9_once : a_IL := [(0, .aload_n 0, 1), (1, .aload_n 0, 1), (2, .getfield 118, 3), (5, .iload_n 1, 1), (6, .invokestatic 121, 3), (9, .ifCond .ne 7, 3), (12, .iconst 1, 1), (13, .goto 4, 3), (16, .iconst 0, 1), (17, .iconst 3, 1), (18, .iload_n 2, 1), (19, .invokevirtual 113, 3), (22, .istore_n 3, 1), (23, .aload_n 0, 1), (24, .dup, 1), (25, .getfield 118, 3), (28, .iconst 1, 1), (29, .iload_n 1, 1), (30, .ishl, 1), (31, .ior, 1), (32, .putfield 118, 3), (35, .iload_n 3, 1), (36, .ireturn, 1)]
def mX9_once : a_Mth := (9, ⟨"BillWallModel", "once", "(II)Z"⟩, prog_11_method_14_code, 4, (Option.some FieldType.boolean), 1, 23, (5, 142), ilX9_once)
def ilX9_takeSize : a_IL := [(0, .aload_n 0, 1), (1, .aload_n 0, 1), (2, .getfield 125, 3), (5, .ifCond .ne 7, 3), (8, .iconst 1, 1), (9, .goto 4, 3), (12, .iconst 0, 1), (13, .iconst 1, 1), (14, .iload_n 1, 1), (15, .invokevirtual 113, 3), (18, .ifCond .eq 39, 3), (21, .aload_n 0, 1), (22, .iconst 0, 1), (23, .iload_n 1, 1), (24, .invokevirtual 129, 3), (27, .ifCond .eq 30, 3), (30, .aload_n 0, 1), (31, .getfield 17, 3), (34, .iconst 5, 1), (35, .aload_n 0, 1), (36, .iconst 1, 1), (37, .bipush 16, 2), (39, .invokevirtual 132, 3), (42, .iastore, 1), (43, .aload_n 0, 1), (44, .getfield 17, 3), (47, .bipush 6, 2), (49, .aload_n 0, 1), (50, .iconst 1, 1), (51, .bipush 8, 2), (53, .invokevirtual 132, 3), (56, .iastore, 1), (57, .return_, 1)]
def mX9_takeSize : a_Mth := (9, ⟨"BillWallModel", "takeSize", "(I)V"⟩, prog_11_method_15_code, 2, (Option.none : Option FieldType), 2, 50, (5, 134), ilX9_takeSize)
def ilX9_takeBare : a_IL := [(0, .aload_n 0, 1), (1, .iconst 1, 1), (2, .putfield 125, 3), (5, .aload_n 0, 1), (6, .aload_n 0, 1), (7, .getfield 136, 3), (10, .bipush 8, 2), (12, .if_icmp .ge 7, 3), (15, .iconst 1, 1), (16, .goto 4, 3), (19, .iconst 0, 1), (20, .iconst 3, 1), (21, .iload_n 1, 1), (22, .invokevirtual 113, 3), (25, .ifCond .eq 181, 3), (28, .aload_n 0, 1), (29, .iconst 0, 1), (30, .aload_n 0, 1), (31, .getfield 17, 3), (34, .iconst 5, 1), (35, .iaload, 1), (36, .iconst 1, 1), (37, .isub, 1), (38, .invokevirtual 132, 3), (41, .istore_n 2, 1), (42, .aload_n 0, 1), (43, .iconst 0, 1), (44, .aload_n 0, 1), (45, .getfield 17, 3), (48, .bipush 6, 2), (50, .iaload, 1), (51, .iconst 1, 1), (52, .isub, 1), (53, .invokevirtual 132, 3), (56, .istore_n 3, 1), (57, .aload_n 0, 1), (58, .iconst 1, 1), (59, .aload_n 0, 1), (60, .getfield 17, 3), (63, .iconst 5, 1), (64, .iaload, 1), (65, .iload_n 2, 1), (66, .isub, 1), (67, .invokevirtual 132, 3), (70, .istore 4, 2), (72, .aload_n 0, 1), (73, .iconst 1, 1), (74, .aload_n 0, 1), (75, .getfield 17, 3), (78, .bipush 6, 2), (80, .iaload, 1), (81, .iload_n 3, 1), (82, .isub, 1), (83, .invokevirtual 132, 3), (86, .istore 5, 2), (88, .iconst 0, 1), (89, .istore 6, 2), (91, .iload 6, 2), (93, .sipush 128, 3), (96, .if_icmp .ge 100, 3), (99, .aload_n 0, 1), (100, .getfield 92, 3), (103, .ifCond .ne 93, 3), (106, .iload 6, 2), (108, .bipush 16, 2), (110, .irem, 1), (111, .i2l, 1), (112, .iload_n 2, 1), (113, .i2l, 1), (114, .iload_n 2, 1), (115, .iload 4, 2), (117, .iadd, 1), (118, .iconst 1, 1), (119, .isub, 1), (120, .i2l, 1), (121, .invokestatic 78, 3), (124, .ifCond .eq 28, 3), (127, .iload 6, 2), (129, .bipush 16, 2), (131, .idiv, 1), (132, .i2l, 1), (133, .iload_n 3, 1), (134, .i2l, 1), (135, .iload_n 3, 1), (136, .iload 5, 2), (138, .iadd, 1), (139, .iconst 1, 1), (140, .isub, 1), (141, .i2l, 1), (142, .invokestatic 78, 3), (145, .ifCond .eq 7, 3), (148, .iconst 1, 1), (149, .goto 4, 3), (152, .iconst 0, 1), (153, .istore 7, 2), (155, .aload_n 0, 1), (156, .getfield 23, 3), (159, .sipush 128, 3), (162, .iload 6, 2), (164, .iadd, 1), (165, .aload_n 0, 1), (166, .getfield 23, 3), (169, .sipush 128, 3), (172, .iload 6, 2), (174, .iadd, 1), (175, .baload, 1), (176, .ifCond .ne 8, 3), (179, .iload 7, 2), (181, .ifCond .eq 7, 3), (184, .iconst 1, 1), (185, .goto 4, 3), (188, .iconst 0, 1), (189, .bastore, 1), (190, .iinc 6 1, 3), (193, .goto (-102), 3), (196, .aload_n 0, 1), (197, .dup, 1), (198, .getfield 136, 3), (201, .iconst 1, 1), (202, .iadd, 1), (203, .putfield 136, 3), (206, .return_, 1)]
def mX9_takeBare : a_Mth := (9, ⟨"BillWallModel", "takeBare", "(I)V"⟩, prog_11_method_16_code, 8, (Option.none : Option FieldType), 2, 50, (5, 156), ilX9_takeBare)
def ilX9_takePass : a_IL := [(0, .aload_n 0, 1), (1, .iconst 1, 1), (2, .putfield 125, 3), (5, .aload_n 0, 1), (6, .iconst 0, 1), (7, .aload_n 0, 1), (8, .getfield 17, 3), (11, .iconst 5, 1), (12, .iaload, 1), (13, .iconst 1, 1), (14, .isub, 1), (15, .invokevirtual 132, 3), (18, .istore_n 1, 1), (19, .aload_n 0, 1), (20, .getfield 92, 3), (23, .ifCond .ne 59, 3), (26, .aload_n 0, 1), (27, .aload_n 0, 1), (28, .getfield 139, 3), (31, .iload_n 1, 1), (32, .invokestatic 121, 3), (35, .ifCond .ne 7, 3), (38, .iconst 1, 1), (39, .goto 4, 3), (42, .iconst 0, 1), (43, .iconst 4, 1), (44, .aload_n 0, 1), (45, .getfield 99, 3), (48, .invokevirtual 113, 3), (51, .ifCond .eq 31, 3), (54, .aload_n 0, 1), (55, .dup, 1), (56, .getfield 139, 3), (59, .iconst 1, 1), (60, .iload_n 1, 1), (61, .ishl, 1), (62, .ior, 1), (63, .putfield 139, 3), (66, .aload_n 0, 1), (67, .getfield 20, 3), (70, .bipush 16, 2), (72, .iload_n 1, 1), (73, .iadd, 1), (74, .aload_n 0, 1), (75, .iconst 0, 1), (76, .bipush 99, 2), (78, .invokevirtual 132, 3), (81, .iastore, 1), (82, .return_, 1)]
def mX9_takePass : a_Mth := (9, ⟨"BillWallModel", "takePass", "()V"⟩, prog_11_method_17_code, 2, (Option.none : Option FieldType), 2, 50, (5, 160), ilX9_takePass)
def ilX9_takeKind : a_IL := [(0, .aload_n 0, 1), (1, .iconst 1, 1), (2, .putfield 125, 3), (5, .aload_n 0, 1), (6, .aload_n 0, 1), (7, .getfield 142, 3), (10, .bipush 12, 2), (12, .if_icmp .ge 7, 3), (15, .iconst 1, 1), (16, .goto 4, 3), (19, .iconst 0, 1), (20, .iconst 3, 1), (21, .iload_n 1, 1), (22, .invokevirtual 113, 3), (25, .ifCond .eq 78, 3), (28, .aload_n 0, 1), (29, .getfield 26, 3), (32, .bipush 12, 2), (34, .aload_n 0, 1), (35, .getfield 142, 3), (38, .iadd, 1), (39, .aload_n 0, 1), (40, .iconst 0, 1), (41, .iconst 5, 1), (42, .invokevirtual 132, 3), (45, .iastore, 1), (46, .aload_n 0, 1), (47, .getfield 29, 3), (50, .bipush 12, 2), (52, .aload_n 0, 1), (53, .getfield 142, 3), (56, .iadd, 1), (57, .aload_n 0, 1), (58, .iconst 1, 1), (59, .aload_n 0, 1), (60, .getfield 17, 3), (63, .iconst 5, 1), (64, .iaload, 1), (65, .invokevirtual 132, 3), (68, .iastore, 1), (69, .aload_n 0, 1), (70, .getfield 32, 3), (73, .bipush 12, 2), (75, .aload_n 0, 1), (76, .getfield 142, 3), (79, .iadd, 1), (80, .aload_n 0, 1), (81, .iconst 1, 1), (82, .aload_n 0, 1), (83, .getfield 17, 3), (86, .bipush 6, 2), (88, .iaload, 1), (89, .invokevirtual 132, 3), (92, .iastore, 1), (93, .aload_n 0, 1), (94, .dup, 1), (95, .getfield 142, 3), (98, .iconst 1, 1), (99, .iadd, 1), (100, .putfield 142, 3), (103, .return_, 1)]
def mX9_takeKind : a_Mth := (9, ⟨"BillWallModel", "takeKind", "(I)V"⟩, prog_11_method_18_code, 2, (Option.none : Option FieldType), 2, 50, (5, 164), ilX9_takeKind)
def ilX9_takeClause : a_IL := [(0, .aload_n 0, 1), (1, .invokevirtual 145, 3), (4, .aload_n 0, 1), (5, .getfield 99, 3), (8, .istore_n 1, 1), (9, .aload_n 0, 1), (10, .iconst 4, 1), (11, .bipush 115, 2), (13, .bipush 105, 2), (15, .bipush 122, 2), (17, .bipush 101, 2), (19, .iconst 0, 1), (20, .invokevirtual 148, 3), (23, .ifCond .eq 11, 3), (26, .aload_n 0, 1), (27, .iload_n 1, 1), (28, .invokevirtual 152, 3), (31, .goto 223, 3), (34, .aload_n 0, 1), (35, .iconst 5, 1), (36, .bipush 103, 2), (38, .bipush 117, 2), (40, .bipush 97, 2), (42, .bipush 114, 2), (44, .bipush 100, 2), (46, .invokevirtual 148, 3), (49, .ifCond .eq 33, 3), (52, .aload_n 0, 1), (53, .getfield 17, 3), (56, .bipush 7, 2), (58, .aload_n 0, 1), (59, .iconst 1, 1), (60, .iload_n 1, 1), (61, .invokevirtual 129, 3), (64, .ifCond .eq 13, 3), (67, .aload_n 0, 1), (68, .iconst 0, 1), (69, .bipush 99, 2), (71, .invokevirtual 132, 3), (74, .goto 4, 3), (77, .iconst 0, 1), (78, .iastore, 1), (79, .goto 175, 3), (82, .aload_n 0, 1), (83, .iconst 4, 1), (84, .bipush 102, 2), (86, .bipush 105, 2), (88, .bipush 110, 2), (90, .bipush 101, 2), (92, .iconst 0, 1), (93, .invokevirtual 148, 3), (96, .ifCond .eq 34, 3), (99, .aload_n 0, 1), (100, .getfield 17, 3), (103, .bipush 8, 2), (105, .aload_n 0, 1), (106, .iconst 2, 1), (107, .iload_n 1, 1), (108, .invokevirtual 129, 3), (111, .ifCond .eq 14, 3), (114, .aload_n 0, 1), (115, .iconst 0, 1), (116, .sipush 999, 3), (119, .invokevirtual 132, 3), (122, .goto 4, 3), (125, .iconst 0, 1), (126, .iastore, 1), (127, .goto 127, 3), (130, .aload_n 0, 1), (131, .iconst 4, 1), (132, .bipush 114, 2), (134, .bipush 101, 2), (136, .bipush 97, 2), (138, .bipush 100, 2), (140, .iconst 0, 1), (141, .invokevirtual 148, 3), (144, .ifCond .eq 33, 3), (147, .aload_n 0, 1), (148, .getfield 17, 3), (151, .bipush 9, 2), (153, .aload_n 0, 1), (154, .iconst 3, 1), (155, .iload_n 1, 1), (156, .invokevirtual 129, 3), (159, .ifCond .eq 13, 3), (162, .aload_n 0, 1), (163, .iconst 1, 1), (164, .bipush 100, 2), (166, .invokevirtual 132, 3), (169, .goto 4, 3), (172, .iconst 0, 1), (173, .iastore, 1), (174, .goto 80, 3), (177, .aload_n 0, 1), (178, .iconst 4, 1), (179, .bipush 98, 2), (181, .bipush 97, 2), (183, .bipush 114, 2), (185, .bipush 101, 2), (187, .iconst 0, 1), (188, .invokevirtual 148, 3), (191, .ifCond .eq 11, 3), (194, .aload_n 0, 1), (195, .iload_n 1, 1), (196, .invokevirtual 156, 3), (199, .goto 55, 3), (202, .aload_n 0, 1), (203, .iconst 4, 1), (204, .bipush 112, 2), (206, .bipush 97, 2), (208, .bipush 115, 2), (210, .bipush 115, 2), (212, .iconst 0, 1), (213, .invokevirtual 148, 3), (216, .ifCond .eq 10, 3), (219, .aload_n 0, 1), (220, .invokevirtual 159, 3), (223, .goto 31, 3), (226, .aload_n 0, 1), (227, .aload_n 0, 1), (228, .iconst 4, 1), (229, .bipush 107, 2), (231, .bipush 105, 2), (233, .bipush 110, 2), (235, .bipush 100, 2), (237, .iconst 0, 1), (238, .invokevirtual 148, 3), (241, .iconst 1, 1), (242, .iload_n 1, 1), (243, .invokevirtual 113, 3), (246, .ifCond .eq 8, 3), (249, .aload_n 0, 1), (250, .iload_n 1, 1), (251, .invokevirtual 162, 3), (254, .aload_n 0, 1), (255, .getfield 92, 3), (258, .ifCond .ne 39, 3), (261, .aload_n 0, 1), (262, .aload_n 0, 1), (263, .invokevirtual 95, 3), (266, .bipush 59, 2), (268, .if_icmp .ne 7, 3), (271, .iconst 1, 1), (272, .goto 4, 3), (275, .iconst 0, 1), (276, .iconst 1, 1), (277, .aload_n 0, 1), (278, .getfield 89, 3), (281, .invokevirtual 113, 3), (284, .ifCond .eq 13, 3), (287, .aload_n 0, 1), (288, .dup, 1), (289, .getfield 89, 3), (292, .iconst 1, 1), (293, .iadd, 1), (294, .putfield 89, 3), (297, .return_, 1)]
def mX9_takeClause : a_Mth := (9, ⟨"BillWallModel", "takeClause", "()V"⟩, prog_11_method_19_code, 2, (Option.none : Option FieldType), 3, 77, (5, 120), ilX9_takeClause)
def ilX9_wall : a_IL := [(0, .aload_n 0, 1), (1, .iconst 0, 1), (2, .putfield 89, 3), (5, .aload_n 0, 1), (6, .iconst 0, 1), (7, .putfield 92, 3), (10, .aload_n 0, 1), (11, .iconst (-1), 1), (12, .putfield 38, 3), (15, .aload_n 0, 1), (16, .iconst 0, 1), (17, .putfield 118, 3), (20, .aload_n 0, 1), (21, .iconst 0, 1), (22, .putfield 139, 3), (25, .aload_n 0, 1), (26, .iconst 0, 1), (27, .putfield 125, 3), (30, .aload_n 0, 1), (31, .iconst 0, 1), (32, .putfield 136, 3), (35, .aload_n 0, 1), (36, .iconst 0, 1), (37, .putfield 142, 3), (40, .iconst 0, 1), (41, .istore_n 1, 1), (42, .iload_n 1, 1), (43, .iconst 5, 1), (44, .if_icmp .ge 21, 3), (47, .aload_n 0, 1), (48, .getfield 17, 3), (51, .iconst 5, 1), (52, .iload_n 1, 1), (53, .iadd, 1), (54, .iload_n 1, 1), (55, .invokestatic 72, 3), (58, .iastore, 1), (59, .iinc 1 1, 3), (62, .goto (-20), 3), (65, .iconst 0, 1), (66, .istore_n 1, 1), (67, .iload_n 1, 1), (68, .bipush 16, 2), (70, .if_icmp .ge 19, 3), (73, .aload_n 0, 1), (74, .getfield 20, 3), (77, .bipush 16, 2), (79, .iload_n 1, 1), (80, .iadd, 1), (81, .iconst 1, 1), (82, .iastore, 1), (83, .iinc 1 1, 3), (86, .goto (-19), 3), (89, .iconst 0, 1), (90, .istore_n 1, 1), (91, .iload_n 1, 1), (92, .sipush 128, 3), (95, .if_icmp .ge 20, 3), (98, .aload_n 0, 1), (99, .getfield 23, 3), (102, .sipush 128, 3), (105, .iload_n 1, 1), (106, .iadd, 1), (107, .iconst 0, 1), (108, .bastore, 1), (109, .iinc 1 1, 3), (112, .goto (-21), 3), (115, .aload_n 0, 1), (116, .getfield 92, 3), (119, .ifCond .ne 17, 3), (122, .aload_n 0, 1), (123, .invokevirtual 95, 3), (126, .ifCond .lt 10, 3), (129, .aload_n 0, 1), (130, .invokevirtual 165, 3), (133, .goto (-18), 3), (136, .aload_n 0, 1), (137, .iconst 0, 1), (138, .putfield 83, 3), (141, .aload_n 0, 1), (142, .getfield 92, 3), (145, .ifCond .le 11, 3), (148, .bipush (-10), 2), (150, .aload_n 0, 1), (151, .getfield 92, 3), (154, .isub, 1), (155, .ireturn, 1), (156, .iconst 0, 1), (157, .istore_n 1, 1), (158, .iload_n 1, 1), (159, .iconst 5, 1), (160, .if_icmp .ge 23, 3), (163, .aload_n 0, 1), (164, .getfield 17, 3), (167, .iload_n 1, 1), (168, .aload_n 0, 1), (169, .getfield 17, 3), (172, .iconst 5, 1), (173, .iload_n 1, 1), (174, .iadd, 1), (175, .iaload, 1), (176, .iastore, 1), (177, .iinc 1 1, 3), (180, .goto (-22), 3), (183, .iconst 0, 1), (184, .istore_n 1, 1), (185, .iload_n 1, 1), (186, .bipush 16, 2), (188, .if_icmp .ge 24, 3), (191, .aload_n 0, 1), (192, .getfield 20, 3), (195, .iload_n 1, 1), (196, .aload_n 0, 1), (197, .getfield 20, 3), (200, .bipush 16, 2), (202, .iload_n 1, 1), (203, .iadd, 1), (204, .iaload, 1), (205, .iastore, 1), (206, .iinc 1 1, 3), (209, .goto (-24), 3), (212, .iconst 0, 1), (213, .istore_n 1, 1), (214, .iload_n 1, 1), (215, .sipush 128, 3), (218, .if_icmp .ge 25, 3), (221, .aload_n 0, 1), (222, .getfield 23, 3), (225, .iload_n 1, 1), (226, .aload_n 0, 1), (227, .getfield 23, 3), (230, .sipush 128, 3), (233, .iload_n 1, 1), (234, .iadd, 1), (235, .baload, 1), (236, .bastore, 1), (237, .iinc 1 1, 3), (240, .goto (-26), 3), (243, .iconst 0, 1), (244, .istore_n 1, 1), (245, .iload_n 1, 1), (246, .bipush 12, 2), (248, .if_icmp .ge 54, 3), (251, .aload_n 0, 1), (252, .getfield 26, 3), (255, .iload_n 1, 1), (256, .aload_n 0, 1), (257, .getfield 26, 3), (260, .bipush 12, 2), (262, .iload_n 1, 1), (263, .iadd, 1), (264, .iaload, 1), (265, .iastore, 1), (266, .aload_n 0, 1), (267, .getfield 29, 3), (270, .iload_n 1, 1), (271, .aload_n 0, 1), (272, .getfield 29, 3), (275, .bipush 12, 2), (277, .iload_n 1, 1), (278, .iadd, 1), (279, .iaload, 1), (280, .iastore, 1), (281, .aload_n 0, 1), (282, .getfield 32, 3), (285, .iload_n 1, 1), (286, .aload_n 0, 1), (287, .getfield 32, 3), (290, .bipush 12, 2), (292, .iload_n 1, 1), (293, .iadd, 1), (294, .iaload, 1), (295, .iastore, 1), (296, .iinc 1 1, 3), (299, .goto (-54), 3), (302, .aload_n 0, 1), (303, .aload_n 0, 1), (304, .getfield 136, 3), (307, .putfield 168, 3), (310, .aload_n 0, 1), (311, .aload_n 0, 1), (312, .getfield 142, 3), (315, .putfield 171, 3), (318, .aload_n 0, 1), (319, .getfield 7, 3), (322, .sipush 190, 3), (325, .iaload, 1), (326, .istore_n 1, 1), (327, .iconst 0, 1), (328, .istore_n 2, 1), (329, .iload_n 2, 1), (330, .sipush 200, 3), (333, .if_icmp .ge 16, 3), (336, .aload_n 0, 1), (337, .getfield 7, 3), (340, .iload_n 2, 1), (341, .iconst 0, 1), (342, .iastore, 1), (343, .iinc 2 1, 3), (346, .goto (-17), 3), (349, .aload_n 0, 1), (350, .getfield 7, 3), (353, .sipush 190, 3), (356, .iload_n 1, 1), (357, .iastore, 1), (358, .aload_n 0, 1), (359, .getfield 13, 3), (362, .iconst 0, 1), (363, .iconst 0, 1), (364, .bastore, 1), (365, .aload_n 0, 1), (366, .getfield 13, 3), (369, .iconst 1, 1), (370, .iconst 0, 1), (371, .bastore, 1), (372, .aload_n 0, 1), (373, .invokevirtual 174, 3), (376, .istore_n 2, 1), (377, .aload_n 0, 1), (378, .getfield 171, 3), (381, .ireturn, 1)]
def mX9_wall : a_Mth := (9, ⟨"BillWallModel", "wall", "()I"⟩, prog_11_method_20_code, 3, (Option.some FieldType.int), 4, 98, (5, 112), ilX9_wall)
def ilX9_fault : a_IL := [(0, .aload_n 0, 1), (1, .getfield 38, 3), (4, .ireturn, 1)]
def mX9_fault : a_Mth := (9, ⟨"BillWallModel", "fault", "()I"⟩, prog_11_method_21_code, 1, (Option.some FieldType.int), 0, 0, (5, 172), ilX9_fault)
def ilX9_told : a_IL := [(0, .iload_n 1, 1), (1, .tableswitch 104 0 10 #[59, 59, 59, 59, 59, 66, 71, 76, 85, 94, 99], 59), (60, .aload_n 0, 1), (61, .getfield 17, 3), (64, .iload_n 1, 1), (65, .iaload, 1), (66, .ireturn, 1), (67, .aload_n 0, 1), (68, .getfield 168, 3), (71, .ireturn, 1), (72, .aload_n 0, 1), (73, .getfield 171, 3), (76, .ireturn, 1), (77, .aload_n 0, 1), (78, .getfield 7, 3), (81, .sipush 180, 3), (84, .iaload, 1), (85, .ireturn, 1), (86, .aload_n 0, 1), (87, .getfield 7, 3), (90, .sipush 181, 3), (93, .iaload, 1), (94, .ireturn, 1), (95, .aload_n 0, 1), (96, .getfield 83, 3), (99, .ireturn, 1), (100, .aload_n 0, 1), (101, .getfield 177, 3), (104, .ireturn, 1), (105, .ldc 82, 2), (107, .ireturn, 1)]
def mX9_told : a_Mth := (9, ⟨"BillWallModel", "told", "(I)I"⟩, prog_11_method_22_code, 2, (Option.some FieldType.int), 0, 0, (5, 176), ilX9_told)
def ilX9_isKind : a_IL := [(0, .iload_n 1, 1), (1, .i2l, 1), (2, .lconst 0, 1), (3, .aload_n 0, 1), (4, .getfield 171, 3), (7, .iconst 1, 1), (8, .isub, 1), (9, .i2l, 1), (10, .invokestatic 78, 3), (13, .ireturn, 1)]
def mX9_isKind : a_Mth := (9, ⟨"BillWallModel", "isKind", "(I)Z"⟩, prog_11_method_23_code, 2, (Option.some FieldType.boolean), 1, 25, (5, 184), ilX9_isKind)
def ilX9_kind : a_IL := [(0, .aload_n 0, 1), (1, .iload_n 1, 1), (2, .invokevirtual 180, 3), (5, .ifCond .ne 6, 3), (8, .ldc 184, 2), (10, .ireturn, 1), (11, .iload_n 2, 1), (12, .ifCond .ne 12, 3), (15, .aload_n 0, 1), (16, .getfield 26, 3), (19, .iload_n 1, 1), (20, .iaload, 1), (21, .goto 33, 3), (24, .iload_n 2, 1), (25, .iconst 1, 1), (26, .if_icmp .ne 12, 3), (29, .aload_n 0, 1), (30, .getfield 29, 3), (33, .iload_n 1, 1), (34, .iaload, 1), (35, .goto 19, 3), (38, .iload_n 2, 1), (39, .iconst 2, 1), (40, .if_icmp .ne 12, 3), (43, .aload_n 0, 1), (44, .getfield 32, 3), (47, .iload_n 1, 1), (48, .iaload, 1), (49, .goto 5, 3), (52, .ldc 82, 2), (54, .ireturn, 1)]
def mX9_kind : a_Mth := (9, ⟨"BillWallModel", "kind", "(II)I"⟩, prog_11_method_24_code, 3, (Option.some FieldType.int), 2, 46, (5, 180), ilX9_kind)
def ilX9_passes : a_IL := [(0, .iload_n 1, 1), (1, .i2l, 1), (2, .lconst 0, 1), (3, .aload_n 0, 1), (4, .getfield 17, 3), (7, .iconst 0, 1), (8, .iaload, 1), (9, .iconst 1, 1), (10, .isub, 1), (11, .i2l, 1), (12, .invokestatic 78, 3), (15, .ifCond .eq 12, 3), (18, .aload_n 0, 1), (19, .getfield 20, 3), (22, .iload_n 1, 1), (23, .iaload, 1), (24, .goto 5, 3), (27, .ldc 82, 2), (29, .ireturn, 1)]
def mX9_passes : a_Mth := (9, ⟨"BillWallModel", "passes", "(I)I"⟩, prog_11_method_25_code, 2, (Option.some FieldType.int), 1, 25, (5, 189), ilX9_passes)
def ilX9_isCell : a_IL := [(0, .iload_n 1, 1), (1, .i2l, 1), (2, .lconst 0, 1), (3, .aload_n 0, 1), (4, .getfield 17, 3), (7, .iconst 0, 1), (8, .iaload, 1), (9, .iconst 1, 1), (10, .isub, 1), (11, .i2l, 1), (12, .invokestatic 78, 3), (15, .ifCond .eq 25, 3), (18, .iload_n 2, 1), (19, .i2l, 1), (20, .lconst 0, 1), (21, .aload_n 0, 1), (22, .getfield 17, 3), (25, .iconst 1, 1), (26, .iaload, 1), (27, .iconst 1, 1), (28, .isub, 1), (29, .i2l, 1), (30, .invokestatic 78, 3), (33, .ifCond .eq 7, 3), (36, .iconst 1, 1), (37, .goto 4, 3), (40, .iconst 0, 1), (41, .ireturn, 1)]
def mX9_isCell : a_Mth := (9, ⟨"BillWallModel", "isCell", "(II)Z"⟩, prog_11_method_26_code, 3, (Option.some FieldType.boolean), 1, 25, (5, 197), ilX9_isCell)
def ilX9_bare : a_IL := [(0, .aload_n 0, 1), (1, .iload_n 1, 1), (2, .iload_n 2, 1), (3, .invokevirtual 185, 3), (6, .ifCond .eq 20, 3), (9, .aload_n 0, 1), (10, .getfield 23, 3), (13, .bipush 16, 2), (15, .iload_n 2, 1), (16, .imul, 1), (17, .iload_n 1, 1), (18, .iadd, 1), (19, .baload, 1), (20, .invokestatic 188, 3), (23, .goto 5, 3), (26, .ldc 82, 2), (28, .ireturn, 1)]
def mX9_bare : a_Mth := (9, ⟨"BillWallModel", "bare", "(II)I"⟩, prog_11_method_27_code, 3, (Option.some FieldType.int), 2, 47, (5, 193), ilX9_bare)
def ilX9_copy : a_IL := [(0, .iconst 0, 1), (1, .istore_n 3, 1), (2, .iload_n 3, 1), (3, .sipush 200, 3), (6, .if_icmp .ge 25, 3), (9, .aload_n 0, 1), (10, .getfield 7, 3), (13, .iload_n 2, 1), (14, .iload_n 3, 1), (15, .iadd, 1), (16, .aload_n 0, 1), (17, .getfield 7, 3), (20, .iload_n 1, 1), (21, .iload_n 3, 1), (22, .iadd, 1), (23, .iaload, 1), (24, .iastore, 1), (25, .iinc 3 1, 3), (28, .goto (-26), 3), (31, .return_, 1)]
def mX9_copy : a_Mth := (9, ⟨"BillWallModel", "copy", "(II)V"⟩, prog_11_method_28_code, 4, (Option.none : Option FieldType), 0, 0, (6, 65), ilX9_copy)
def ilX9_ownerOf : a_IL := [(0, .aload_n 0, 1), (1, .getfield 26, 3), (4, .aload_n 0, 1), (5, .getfield 7, 3), (8, .iload_n 1, 1), (9, .iload_n 2, 1), (10, .iadd, 1), (11, .iaload, 1), (12, .iaload, 1), (13, .ireturn, 1)]
def mX9_ownerOf : a_Mth := (9, ⟨"BillWallModel", "ownerOf", "(II)I"⟩, prog_11_method_29_code, 3, (Option.some FieldType.int), 0, 0, (6, 1), ilX9_ownerOf)
def ilX9_sizeOf : a_IL := [(0, .aload_n 0, 1), (1, .getfield 29, 3), (4, .iload_n 1, 1), (5, .iaload, 1), (6, .aload_n 0, 1), (7, .getfield 32, 3), (10, .iload_n 1, 1), (11, .iaload, 1), (12, .imul, 1), (13, .ireturn, 1)]
def mX9_sizeOf : a_Mth := (9, ⟨"BillWallModel", "sizeOf", "(I)I"⟩, prog_11_method_30_code, 2, (Option.some FieldType.int), 0, 0, (6, 30), ilX9_sizeOf)
def ilX9_reaches : a_IL := [(0, .iload 4, 2), (2, .bipush 16, 2), (4, .irem, 1), (5, .i2l, 1), (6, .iload_n 2, 1), (7, .i2l, 1), (8, .iload_n 2, 1), (9, .aload_n 0, 1), (10, .getfield 29, 3), (13, .iload_n 1, 1), (14, .iaload, 1), (15, .iadd, 1), (16, .iconst 1, 1), (17, .isub, 1), (18, .i2l, 1), (19, .invokestatic 78, 3), (22, .ifCond .eq 32, 3), (25, .iload 4, 2), (27, .bipush 16, 2), (29, .idiv, 1), (30, .i2l, 1), (31, .iload_n 3, 1), (32, .i2l, 1), (33, .iload_n 3, 1), (34, .aload_n 0, 1), (35, .getfield 32, 3), (38, .iload_n 1, 1), (39, .iaload, 1), (40, .iadd, 1), (41, .iconst 1, 1), (42, .isub, 1), (43, .i2l, 1), (44, .invokestatic 78, 3), (47, .ifCond .eq 7, 3), (50, .iconst 1, 1), (51, .goto 4, 3), (54, .iconst 0, 1), (55, .ireturn, 1)]
def mX9_reaches : a_Mth := (9, ⟨"BillWallModel", "reaches", "(IIII)Z"⟩, prog_11_method_31_code, 5, (Option.some FieldType.boolean), 1, 25, (5, 216), ilX9_reaches)
def ilX9_isTorn : a_IL := [(0, .aload_n 0, 1), (1, .getfield 7, 3), (4, .iload_n 1, 1), (5, .bipush 100, 2), (7, .iadd, 1), (8, .iconst 4, 1), (9, .iload_n 2, 1), (10, .imul, 1), (11, .iadd, 1), (12, .iload_n 3, 1), (13, .bipush 32, 2), (15, .idiv, 1), (16, .iadd, 1), (17, .iaload, 1), (18, .iload_n 3, 1), (19, .bipush 32, 2), (21, .irem, 1), (22, .invokestatic 121, 3), (25, .ireturn, 1)]
def mX9_isTorn : a_Mth := (9, ⟨"BillWallModel", "isTorn", "(III)Z"⟩, prog_11_method_32_code, 4, (Option.some FieldType.boolean), 1, 21, (5, 237), ilX9_isTorn)
def ilX9_lies : a_IL := [(0, .aload_n 0, 1), (1, .getfield 7, 3), (4, .iload_n 1, 1), (5, .bipush 80, 2), (7, .iadd, 1), (8, .iload_n 2, 1), (9, .iadd, 1), (10, .iaload, 1), (11, .iconst 1, 1), (12, .if_icmp .ne 55, 3), (15, .aload_n 0, 1), (16, .aload_n 0, 1), (17, .getfield 7, 3), (20, .iload_n 1, 1), (21, .iload_n 2, 1), (22, .iadd, 1), (23, .iaload, 1), (24, .aload_n 0, 1), (25, .getfield 7, 3), (28, .iload_n 1, 1), (29, .bipush 20, 2), (31, .iadd, 1), (32, .iload_n 2, 1), (33, .iadd, 1), (34, .iaload, 1), (35, .aload_n 0, 1), (36, .getfield 7, 3), (39, .iload_n 1, 1), (40, .bipush 40, 2), (42, .iadd, 1), (43, .iload_n 2, 1), (44, .iadd, 1), (45, .iaload, 1), (46, .iload_n 3, 1), (47, .invokevirtual 192, 3), (50, .ifCond .eq 17, 3), (53, .aload_n 0, 1), (54, .iload_n 1, 1), (55, .iload_n 2, 1), (56, .iload_n 3, 1), (57, .invokevirtual 196, 3), (60, .ifCond .ne 7, 3), (63, .iconst 1, 1), (64, .goto 4, 3), (67, .iconst 0, 1), (68, .ireturn, 1)]
def mX9_lies : a_Mth := (9, ⟨"BillWallModel", "lies", "(III)Z"⟩, prog_11_method_33_code, 4, (Option.some FieldType.boolean), 2, 49, (5, 233), ilX9_lies)
def ilX9_aboveAt : a_IL := [(0, .aload_n 0, 1), (1, .getfield 7, 3), (4, .iload_n 1, 1), (5, .sipush 180, 3), (8, .iadd, 1), (9, .iaload, 1), (10, .iconst 1, 1), (11, .isub, 1), (12, .istore_n 3, 1), (13, .iload_n 3, 1), (14, .ifCond .lt 21, 3), (17, .aload_n 0, 1), (18, .iload_n 1, 1), (19, .iload_n 3, 1), (20, .iload_n 2, 1), (21, .invokevirtual 200, 3), (24, .ifCond .eq 5, 3), (27, .iload_n 3, 1), (28, .ireturn, 1), (29, .iinc 3 (-1), 3), (32, .goto (-19), 3), (35, .iconst (-1), 1), (36, .ireturn, 1)]
def mX9_aboveAt : a_Mth := (9, ⟨"BillWallModel", "aboveAt", "(II)I"⟩, prog_11_method_34_code, 4, (Option.some FieldType.int), 3, 72, (5, 229), ilX9_aboveAt)
def ilX9_see : a_IL := [(0, .iconst 0, 1), (1, .istore_n 2, 1), (2, .iload_n 2, 1), (3, .bipush 20, 2), (5, .if_icmp .ge 23, 3), (8, .aload_n 0, 1), (9, .getfield 42, 3), (12, .iload_n 2, 1), (13, .iconst 0, 1), (14, .iastore, 1), (15, .aload_n 0, 1), (16, .getfield 45, 3), (19, .iload_n 2, 1), (20, .iconst 0, 1), (21, .iastore, 1), (22, .iinc 2 1, 3), (25, .goto (-23), 3), (28, .iconst 0, 1), (29, .istore_n 2, 1), (30, .iload_n 2, 1), (31, .sipush 128, 3), (34, .if_icmp .ge 48, 3), (37, .aload_n 0, 1), (38, .iload_n 1, 1), (39, .iload_n 2, 1), (40, .invokevirtual 203, 3), (43, .istore_n 3, 1), (44, .iload_n 3, 1), (45, .ifCond .lt 31, 3), (48, .aload_n 0, 1), (49, .getfield 42, 3), (52, .iload_n 3, 1), (53, .dup2, 1), (54, .iaload, 1), (55, .iconst 1, 1), (56, .iadd, 1), (57, .iastore, 1), (58, .aload_n 0, 1), (59, .getfield 45, 3), (62, .iload_n 3, 1), (63, .dup2, 1), (64, .iaload, 1), (65, .aload_n 0, 1), (66, .getfield 20, 3), (69, .iload_n 2, 1), (70, .bipush 16, 2), (72, .irem, 1), (73, .iaload, 1), (74, .iadd, 1), (75, .iastore, 1), (76, .iinc 2 1, 3), (79, .goto (-49), 3), (82, .return_, 1)]
def mX9_see : a_Mth := (9, ⟨"BillWallModel", "see", "(I)V"⟩, prog_11_method_35_code, 4, (Option.none : Option FieldType), 4, 95, (5, 225), ilX9_see)
def ilX9_isRead : a_IL := [(0, .bipush 100, 2), (2, .aload_n 0, 1), (3, .getfield 42, 3), (6, .iload_n 2, 1), (7, .iaload, 1), (8, .imul, 1), (9, .aload_n 0, 1), (10, .getfield 17, 3), (13, .iconst 4, 1), (14, .iaload, 1), (15, .aload_n 0, 1), (16, .aload_n 0, 1), (17, .getfield 7, 3), (20, .iload_n 1, 1), (21, .iload_n 2, 1), (22, .iadd, 1), (23, .iaload, 1), (24, .invokevirtual 206, 3), (27, .imul, 1), (28, .if_icmp .lt 7, 3), (31, .iconst 1, 1), (32, .goto 4, 3), (35, .iconst 0, 1), (36, .ireturn, 1)]
def mX9_isRead : a_Mth := (9, ⟨"BillWallModel", "isRead", "(II)Z"⟩, prog_11_method_36_code, 3, (Option.some FieldType.boolean), 1, 21, (6, 26), ilX9_isRead)
def ilX9_worthOf : a_IL := [(0, .aload_n 0, 1), (1, .iload_n 1, 1), (2, .invokevirtual 209, 3), (5, .iconst 0, 1), (6, .istore_n 3, 1), (7, .iconst 0, 1), (8, .istore 4, 2), (10, .iload 4, 2), (12, .aload_n 0, 1), (13, .getfield 7, 3), (16, .iload_n 1, 1), (17, .sipush 180, 3), (20, .iadd, 1), (21, .iaload, 1), (22, .if_icmp .ge 44, 3), (25, .iload_n 3, 1), (26, .aload_n 0, 1), (27, .iload_n 1, 1), (28, .iload 4, 2), (30, .invokevirtual 212, 3), (33, .iload_n 2, 1), (34, .if_icmp .ne 23, 3), (37, .aload_n 0, 1), (38, .iload_n 1, 1), (39, .iload 4, 2), (41, .invokevirtual 215, 3), (44, .ifCond .eq 13, 3), (47, .aload_n 0, 1), (48, .getfield 45, 3), (51, .iload 4, 2), (53, .iaload, 1), (54, .goto 4, 3), (57, .iconst 0, 1), (58, .iadd, 1), (59, .istore_n 3, 1), (60, .iinc 4 1, 3), (63, .goto (-53), 3), (66, .iload_n 3, 1), (67, .ireturn, 1)]
def mX9_worthOf : a_Mth := (9, ⟨"BillWallModel", "worthOf", "(II)I"⟩, prog_11_method_37_code, 5, (Option.some FieldType.int), 5, 118, (6, 99), ilX9_worthOf)
def ilX9_lay : a_IL := [(0, .aload_n 0, 1), (1, .iload_n 1, 1), (2, .invokevirtual 209, 3), (5, .iconst 0, 1), (6, .istore 5, 2), (8, .iload 5, 2), (10, .bipush 20, 2), (12, .if_icmp .ge 23, 3), (15, .aload_n 0, 1), (16, .getfield 48, 3), (19, .iload 5, 2), (21, .aload_n 0, 1), (22, .getfield 42, 3), (25, .iload 5, 2), (27, .iaload, 1), (28, .iastore, 1), (29, .iinc 5 1, 3), (32, .goto (-24), 3), (35, .aload_n 0, 1), (36, .getfield 7, 3), (39, .iload_n 1, 1), (40, .sipush 180, 3), (43, .iadd, 1), (44, .iaload, 1), (45, .istore 5, 2), (47, .aload_n 0, 1), (48, .getfield 7, 3), (51, .iload_n 1, 1), (52, .iload 5, 2), (54, .iadd, 1), (55, .iload_n 2, 1), (56, .iastore, 1), (57, .aload_n 0, 1), (58, .getfield 7, 3), (61, .iload_n 1, 1), (62, .bipush 20, 2), (64, .iadd, 1), (65, .iload 5, 2), (67, .iadd, 1), (68, .iload_n 3, 1), (69, .iastore, 1), (70, .aload_n 0, 1), (71, .getfield 7, 3), (74, .iload_n 1, 1), (75, .bipush 40, 2), (77, .iadd, 1), (78, .iload 5, 2), (80, .iadd, 1), (81, .iload 4, 2), (83, .iastore, 1), (84, .aload_n 0, 1), (85, .getfield 7, 3), (88, .iload_n 1, 1), (89, .bipush 60, 2), (91, .iadd, 1), (92, .iload 5, 2), (94, .iadd, 1), (95, .aload_n 0, 1), (96, .getfield 7, 3), (99, .iload_n 1, 1), (100, .sipush 181, 3), (103, .iadd, 1), (104, .iaload, 1), (105, .iastore, 1), (106, .aload_n 0, 1), (107, .getfield 7, 3), (110, .iload_n 1, 1), (111, .bipush 80, 2), (113, .iadd, 1), (114, .iload 5, 2), (116, .iadd, 1), (117, .iconst 1, 1), (118, .iastore, 1), (119, .iconst 0, 1), (120, .istore 6, 2), (122, .iload 6, 2), (124, .iconst 4, 1), (125, .if_icmp .ge 27, 3), (128, .aload_n 0, 1), (129, .getfield 7, 3), (132, .iload_n 1, 1), (133, .bipush 100, 2), (135, .iadd, 1), (136, .iconst 4, 1), (137, .iload 5, 2), (139, .imul, 1), (140, .iadd, 1), (141, .iload 6, 2), (143, .iadd, 1), (144, .iconst 0, 1), (145, .iastore, 1), (146, .iinc 6 1, 3), (149, .goto (-27), 3), (152, .aload_n 0, 1), (153, .getfield 7, 3), (156, .iload_n 1, 1), (157, .sipush 180, 3), (160, .iadd, 1), (161, .iload 5, 2), (163, .iconst 1, 1), (164, .iadd, 1), (165, .iastore, 1), (166, .aload_n 0, 1), (167, .iload_n 1, 1), (168, .invokevirtual 209, 3), (171, .iconst 0, 1), (172, .istore 6, 2), (174, .iconst 0, 1), (175, .istore 7, 2), (177, .iload 7, 2), (179, .iload 5, 2), (181, .if_icmp .ge 101, 3), (184, .aload_n 0, 1), (185, .getfield 7, 3), (188, .iload_n 1, 1), (189, .sipush 181, 3), (192, .iadd, 1), (193, .iaload, 1), (194, .aload_n 0, 1), (195, .getfield 7, 3), (198, .iload_n 1, 1), (199, .bipush 60, 2), (201, .iadd, 1), (202, .iload 7, 2), (204, .iadd, 1), (205, .iaload, 1), (206, .isub, 1), (207, .aload_n 0, 1), (208, .getfield 17, 3), (211, .iconst 2, 1), (212, .iaload, 1), (213, .if_icmp .ge 7, 3), (216, .iconst 1, 1), (217, .goto 4, 3), (220, .iconst 0, 1), (221, .istore 8, 2), (223, .iload 6, 2), (225, .aload_n 0, 1), (226, .iload_n 1, 1), (227, .iload 7, 2), (229, .invokevirtual 212, 3), (232, .aload_n 0, 1), (233, .getfield 26, 3), (236, .iload_n 2, 1), (237, .iaload, 1), (238, .if_icmp .eq 34, 3), (241, .iload 8, 2), (243, .ifCond .eq 29, 3), (246, .aload_n 0, 1), (247, .getfield 42, 3), (250, .iload 7, 2), (252, .iaload, 1), (253, .aload_n 0, 1), (254, .getfield 48, 3), (257, .iload 7, 2), (259, .iaload, 1), (260, .if_icmp .ge 12, 3), (263, .aload_n 0, 1), (264, .getfield 17, 3), (267, .iconst 3, 1), (268, .iaload, 1), (269, .goto 4, 3), (272, .iconst 0, 1), (273, .iadd, 1), (274, .istore 6, 2), (276, .iinc 7 1, 3), (279, .goto (-102), 3), (282, .aload_n 0, 1), (283, .getfield 7, 3), (286, .iload_n 1, 1), (287, .sipush 182, 3), (290, .iadd, 1), (291, .aload_n 0, 1), (292, .getfield 26, 3), (295, .iload_n 2, 1), (296, .iaload, 1), (297, .iadd, 1), (298, .dup2, 1), (299, .iaload, 1), (300, .iload 6, 2), (302, .iadd, 1), (303, .iastore, 1), (304, .iload 6, 2), (306, .ireturn, 1)]
def mX9_lay : a_Mth := (9, ⟨"BillWallModel", "lay", "(IIII)I"⟩, prog_11_method_38_code, 9, (Option.some FieldType.int), 5, 118, (5, 221), ilX9_lay)
def ilX9_isWithin : a_IL := [(0, .iload_n 2, 1), (1, .ifCond .lt 45, 3), (4, .iload_n 3, 1), (5, .ifCond .lt 41, 3), (8, .iload_n 2, 1), (9, .aload_n 0, 1), (10, .getfield 17, 3), (13, .iconst 0, 1), (14, .iaload, 1), (15, .aload_n 0, 1), (16, .getfield 29, 3), (19, .iload_n 1, 1), (20, .iaload, 1), (21, .isub, 1), (22, .if_icmp .gt 24, 3), (25, .iload_n 3, 1), (26, .aload_n 0, 1), (27, .getfield 17, 3), (30, .iconst 1, 1), (31, .iaload, 1), (32, .aload_n 0, 1), (33, .getfield 32, 3), (36, .iload_n 1, 1), (37, .iaload, 1), (38, .isub, 1), (39, .if_icmp .gt 7, 3), (42, .iconst 1, 1), (43, .goto 4, 3), (46, .iconst 0, 1), (47, .ireturn, 1)]
def mX9_isWithin : a_Mth := (9, ⟨"BillWallModel", "isWithin", "(III)Z"⟩, prog_11_method_39_code, 4, (Option.some FieldType.boolean), 0, 0, (5, 208), ilX9_isWithin)
def ilX9_isClear : a_IL := [(0, .iconst 1, 1), (1, .istore 4, 2), (3, .iconst 0, 1), (4, .istore 5, 2), (6, .iload 5, 2), (8, .sipush 128, 3), (11, .if_icmp .ge 43, 3), (14, .iload 4, 2), (16, .ifCond .eq 29, 3), (19, .aload_n 0, 1), (20, .getfield 23, 3), (23, .iload 5, 2), (25, .baload, 1), (26, .ifCond .eq 15, 3), (29, .aload_n 0, 1), (30, .iload_n 1, 1), (31, .iload_n 2, 1), (32, .iload_n 3, 1), (33, .iload 5, 2), (35, .invokevirtual 192, 3), (38, .ifCond .ne 7, 3), (41, .iconst 1, 1), (42, .goto 4, 3), (45, .iconst 0, 1), (46, .istore 4, 2), (48, .iinc 5 1, 3), (51, .goto (-45), 3), (54, .iload 4, 2), (56, .ireturn, 1)]
def mX9_isClear : a_Mth := (9, ⟨"BillWallModel", "isClear", "(III)Z"⟩, prog_11_method_40_code, 6, (Option.some FieldType.boolean), 2, 49, (5, 212), ilX9_isClear)
def ilX9_paste : a_IL := [(0, .aload_n 0, 1), (1, .iload_n 1, 1), (2, .invokevirtual 180, 3), (5, .ifCond .ne 6, 3), (8, .ldc 184, 2), (10, .ireturn, 1), (11, .aload_n 0, 1), (12, .iload_n 1, 1), (13, .iload_n 2, 1), (14, .iload_n 3, 1), (15, .invokevirtual 218, 3), (18, .ifCond .ne 6, 3), (21, .ldc 82, 2), (23, .ireturn, 1), (24, .aload_n 0, 1), (25, .iload_n 1, 1), (26, .iload_n 2, 1), (27, .iload_n 3, 1), (28, .invokevirtual 221, 3), (31, .ifCond .ne 6, 3), (34, .ldc 224, 2), (36, .ireturn, 1), (37, .aload_n 0, 1), (38, .getfield 7, 3), (41, .sipush 180, 3), (44, .iaload, 1), (45, .bipush 20, 2), (47, .if_icmp .ne 6, 3), (50, .ldc 86, 2), (52, .ireturn, 1), (53, .aload_n 0, 1), (54, .iconst 0, 1), (55, .iload_n 1, 1), (56, .iload_n 2, 1), (57, .iload_n 3, 1), (58, .invokevirtual 225, 3), (61, .istore 4, 2), (63, .aload_n 0, 1), (64, .getfield 7, 3), (67, .sipush 180, 3), (70, .iaload, 1), (71, .iconst 1, 1), (72, .isub, 1), (73, .ireturn, 1)]
def mX9_paste : a_Mth := (9, ⟨"BillWallModel", "paste", "(III)I"⟩, prog_11_method_41_code, 5, (Option.some FieldType.int), 6, 146, (5, 204), ilX9_paste)
def ilX9_days : a_IL := [(0, .iload_n 1, 1), (1, .i2l, 1), (2, .lconst 0, 1), (3, .ldc2_w 229, 3), (6, .invokestatic 78, 3), (9, .ifCond .ne 6, 3), (12, .ldc 82, 2), (14, .ireturn, 1), (15, .aload_n 0, 1), (16, .getfield 7, 3), (19, .sipush 181, 3), (22, .dup2, 1), (23, .iaload, 1), (24, .iload_n 1, 1), (25, .iadd, 1), (26, .iastore, 1), (27, .aload_n 0, 1), (28, .getfield 7, 3), (31, .sipush 181, 3), (34, .iaload, 1), (35, .ireturn, 1)]
def mX9_days : a_Mth := (9, ⟨"BillWallModel", "days", "(I)I"⟩, prog_11_method_42_code, 2, (Option.some FieldType.int), 1, 25, (6, 5), ilX9_days)
def ilX9_above : a_IL := [(0, .aload_n 0, 1), (1, .iload_n 1, 1), (2, .iload_n 2, 1), (3, .invokevirtual 185, 3), (6, .ifCond .eq 17, 3), (9, .aload_n 0, 1), (10, .iconst 0, 1), (11, .bipush 16, 2), (13, .iload_n 2, 1), (14, .imul, 1), (15, .iload_n 1, 1), (16, .iadd, 1), (17, .invokevirtual 203, 3), (20, .goto 5, 3), (23, .ldc 82, 2), (25, .ireturn, 1)]
def mX9_above : a_Mth := (9, ⟨"BillWallModel", "above", "(II)I"⟩, prog_11_method_43_code, 3, (Option.some FieldType.int), 4, 95, (6, 10), ilX9_above)
def ilX9_isBill : a_IL := [(0, .iload_n 1, 1), (1, .i2l, 1), (2, .lconst 0, 1), (3, .aload_n 0, 1), (4, .getfield 7, 3), (7, .sipush 180, 3), (10, .iaload, 1), (11, .iconst 1, 1), (12, .isub, 1), (13, .i2l, 1), (14, .invokestatic 78, 3), (17, .ireturn, 1)]
def mX9_isBill : a_Mth := (9, ⟨"BillWallModel", "isBill", "(I)Z"⟩, prog_11_method_44_code, 2, (Option.some FieldType.boolean), 1, 25, (6, 18), ilX9_isBill)
def ilX9_tornMany : a_IL := [(0, .iconst 0, 1), (1, .istore_n 2, 1), (2, .iconst 0, 1), (3, .istore_n 3, 1), (4, .iload_n 3, 1), (5, .sipush 128, 3), (8, .if_icmp .ge 22, 3), (11, .iload_n 2, 1), (12, .aload_n 0, 1), (13, .iconst 0, 1), (14, .iload_n 1, 1), (15, .iload_n 3, 1), (16, .invokevirtual 196, 3), (19, .invokestatic 188, 3), (22, .iadd, 1), (23, .istore_n 2, 1), (24, .iinc 3 1, 3), (27, .goto (-23), 3), (30, .iload_n 2, 1), (31, .ireturn, 1)]
def mX9_tornMany : a_Mth := (9, ⟨"BillWallModel", "tornMany", "(I)I"⟩, prog_11_method_45_code, 4, (Option.some FieldType.int), 2, 44, (6, 22), ilX9_tornMany)
def ilX9_bill : a_IL := [(0, .aload_n 0, 1), (1, .iload_n 1, 1), (2, .invokevirtual 231, 3), (5, .ifCond .ne 6, 3), (8, .ldc 184, 2), (10, .ireturn, 1), (11, .aload_n 0, 1), (12, .iconst 0, 1), (13, .invokevirtual 209, 3), (16, .iload_n 2, 1), (17, .tableswitch 158 0 8 #[51, 58, 68, 78, 88, 95, 118, 128, 148], 51), (68, .aload_n 0, 1), (69, .getfield 7, 3), (72, .iload_n 1, 1), (73, .iaload, 1), (74, .ireturn, 1), (75, .aload_n 0, 1), (76, .getfield 7, 3), (79, .bipush 20, 2), (81, .iload_n 1, 1), (82, .iadd, 1), (83, .iaload, 1), (84, .ireturn, 1), (85, .aload_n 0, 1), (86, .getfield 7, 3), (89, .bipush 40, 2), (91, .iload_n 1, 1), (92, .iadd, 1), (93, .iaload, 1), (94, .ireturn, 1), (95, .aload_n 0, 1), (96, .getfield 7, 3), (99, .bipush 60, 2), (101, .iload_n 1, 1), (102, .iadd, 1), (103, .iaload, 1), (104, .ireturn, 1), (105, .aload_n 0, 1), (106, .getfield 42, 3), (109, .iload_n 1, 1), (110, .iaload, 1), (111, .ireturn, 1), (112, .aload_n 0, 1), (113, .getfield 7, 3), (116, .bipush 80, 2), (118, .iload_n 1, 1), (119, .iadd, 1), (120, .iaload, 1), (121, .iconst 1, 1), (122, .if_icmp .ne 11, 3), (125, .aload_n 0, 1), (126, .iload_n 1, 1), (127, .invokevirtual 234, 3), (130, .goto 4, 3), (133, .iconst 0, 1), (134, .ireturn, 1), (135, .aload_n 0, 1), (136, .iconst 0, 1), (137, .iload_n 1, 1), (138, .invokevirtual 215, 3), (141, .invokestatic 188, 3), (144, .ireturn, 1), (145, .aload_n 0, 1), (146, .iconst 0, 1), (147, .iload_n 1, 1), (148, .invokevirtual 215, 3), (151, .ifCond .eq 12, 3), (154, .aload_n 0, 1), (155, .getfield 45, 3), (158, .iload_n 1, 1), (159, .iaload, 1), (160, .goto 4, 3), (163, .iconst 0, 1), (164, .ireturn, 1), (165, .aload_n 0, 1), (166, .getfield 7, 3), (169, .bipush 80, 2), (171, .iload_n 1, 1), (172, .iadd, 1), (173, .iaload, 1), (174, .ireturn, 1), (175, .ldc 82, 2), (177, .ireturn, 1)]
def mX9_bill : a_Mth := (9, ⟨"BillWallModel", "bill", "(II)I"⟩, prog_11_method_46_code, 3, (Option.some FieldType.int), 5, 118, (6, 14), ilX9_bill)
def ilX9_overOf : a_IL := [(0, .iconst 0, 1), (1, .istore_n 2, 1), (2, .iload_n 1, 1), (3, .iconst 1, 1), (4, .iadd, 1), (5, .istore_n 3, 1), (6, .iload_n 3, 1), (7, .aload_n 0, 1), (8, .getfield 7, 3), (11, .sipush 180, 3), (14, .iaload, 1), (15, .if_icmp .ge 73, 3), (18, .iconst 0, 1), (19, .istore 4, 2), (21, .iconst 0, 1), (22, .istore 5, 2), (24, .iload 5, 2), (26, .sipush 128, 3), (29, .if_icmp .ge 43, 3), (32, .iload 4, 2), (34, .ifCond .ne 25, 3), (37, .aload_n 0, 1), (38, .iconst 0, 1), (39, .iload_n 3, 1), (40, .iload 5, 2), (42, .invokevirtual 200, 3), (45, .ifCond .eq 18, 3), (48, .aload_n 0, 1), (49, .iconst 0, 1), (50, .iload_n 1, 1), (51, .iload 5, 2), (53, .invokevirtual 200, 3), (56, .ifCond .eq 7, 3), (59, .iconst 1, 1), (60, .goto 4, 3), (63, .iconst 0, 1), (64, .istore 4, 2), (66, .iinc 5 1, 3), (69, .goto (-45), 3), (72, .iload_n 2, 1), (73, .iload 4, 2), (75, .invokestatic 188, 3), (78, .iload_n 3, 1), (79, .ishl, 1), (80, .ior, 1), (81, .istore_n 2, 1), (82, .iinc 3 1, 3), (85, .goto (-79), 3), (88, .iload_n 2, 1), (89, .ireturn, 1)]
def mX9_overOf : a_Mth := (9, ⟨"BillWallModel", "overOf", "(I)I"⟩, prog_11_method_47_code, 6, (Option.some FieldType.int), 3, 72, (6, 38), ilX9_overOf)
def ilX9_over : a_IL := [(0, .aload_n 0, 1), (1, .iload_n 1, 1), (2, .invokevirtual 231, 3), (5, .ifCond .eq 11, 3), (8, .aload_n 0, 1), (9, .iload_n 1, 1), (10, .invokevirtual 237, 3), (13, .goto 5, 3), (16, .ldc 184, 2), (18, .ireturn, 1)]
def mX9_over : a_Mth := (9, ⟨"BillWallModel", "over", "(I)I"⟩, prog_11_method_48_code, 2, (Option.some FieldType.int), 4, 97, (6, 34), ilX9_over)
def ilX9_freeOf : a_IL := [(0, .aload_n 0, 1), (1, .iload_n 1, 1), (2, .invokevirtual 237, 3), (5, .istore_n 2, 1), (6, .iload_n 1, 1), (7, .iconst 1, 1), (8, .iadd, 1), (9, .istore_n 3, 1), (10, .iload_n 3, 1), (11, .aload_n 0, 1), (12, .getfield 7, 3), (15, .sipush 180, 3), (18, .iaload, 1), (19, .if_icmp .ge 29, 3), (22, .iload_n 2, 1), (23, .iload_n 2, 1), (24, .iload_n 3, 1), (25, .invokestatic 121, 3), (28, .ifCond .eq 11, 3), (31, .aload_n 0, 1), (32, .iload_n 3, 1), (33, .invokevirtual 237, 3), (36, .goto 4, 3), (39, .iconst 0, 1), (40, .ior, 1), (41, .istore_n 2, 1), (42, .iinc 3 1, 3), (45, .goto (-35), 3), (48, .iload_n 2, 1), (49, .ireturn, 1)]
def mX9_freeOf : a_Mth := (9, ⟨"BillWallModel", "freeOf", "(I)I"⟩, prog_11_method_49_code, 4, (Option.some FieldType.int), 4, 97, (6, 46), ilX9_freeOf)
def ilX9_free : a_IL := [(0, .aload_n 0, 1), (1, .iload_n 1, 1), (2, .invokevirtual 231, 3), (5, .ifCond .ne 6, 3), (8, .ldc 184, 2), (10, .ireturn, 1), (11, .aload_n 0, 1), (12, .getfield 7, 3), (15, .bipush 80, 2), (17, .iload_n 1, 1), (18, .iadd, 1), (19, .iaload, 1), (20, .iconst 1, 1), (21, .if_icmp .ne 11, 3), (24, .aload_n 0, 1), (25, .iload_n 1, 1), (26, .invokevirtual 240, 3), (29, .goto 5, 3), (32, .ldc 224, 2), (34, .ireturn, 1)]
def mX9_free : a_Mth := (9, ⟨"BillWallModel", "free", "(I)I"⟩, prog_11_method_50_code, 2, (Option.some FieldType.int), 5, 120, (6, 42), ilX9_free)
def ilX9_isWhole : a_IL := [(0, .iconst 1, 1), (1, .istore_n 2, 1), (2, .iconst 0, 1), (3, .istore_n 3, 1), (4, .iload_n 3, 1), (5, .aload_n 0, 1), (6, .getfield 7, 3), (9, .sipush 180, 3), (12, .iaload, 1), (13, .if_icmp .ge 40, 3), (16, .iload_n 2, 1), (17, .ifCond .eq 28, 3), (20, .iload_n 1, 1), (21, .iload_n 3, 1), (22, .invokestatic 121, 3), (25, .ifCond .eq 16, 3), (28, .aload_n 0, 1), (29, .getfield 51, 3), (32, .iload_n 3, 1), (33, .iaload, 1), (34, .iload_n 1, 1), (35, .iconst (-1), 1), (36, .ixor, 1), (37, .iand, 1), (38, .ifCond .ne 7, 3), (41, .iconst 1, 1), (42, .goto 4, 3), (45, .iconst 0, 1), (46, .istore_n 2, 1), (47, .iinc 3 1, 3), (50, .goto (-46), 3), (53, .iload_n 2, 1), (54, .ireturn, 1)]
def mX9_isWhole : a_Mth := (9, ⟨"BillWallModel", "isWhole", "(I)Z"⟩, prog_11_method_51_code, 4, (Option.some FieldType.boolean), 1, 21, (6, 57), ilX9_isWhole)
def ilX9_isReadWithout : a_IL := [(0, .aload_n 0, 1), (1, .iconst 0, 1), (2, .sipush 200, 3), (5, .invokevirtual 243, 3), (8, .iconst 0, 1), (9, .istore_n 3, 1), (10, .iload_n 3, 1), (11, .aload_n 0, 1), (12, .getfield 7, 3), (15, .sipush 180, 3), (18, .iaload, 1), (19, .if_icmp .ge 40, 3), (22, .aload_n 0, 1), (23, .getfield 7, 3), (26, .sipush 280, 3), (29, .iload_n 3, 1), (30, .iadd, 1), (31, .iload_n 2, 1), (32, .iload_n 3, 1), (33, .invokestatic 121, 3), (36, .ifCond .eq 7, 3), (39, .iconst 0, 1), (40, .goto 12, 3), (43, .aload_n 0, 1), (44, .getfield 7, 3), (47, .bipush 80, 2), (49, .iload_n 3, 1), (50, .iadd, 1), (51, .iaload, 1), (52, .iastore, 1), (53, .iinc 3 1, 3), (56, .goto (-46), 3), (59, .aload_n 0, 1), (60, .sipush 200, 3), (63, .invokevirtual 209, 3), (66, .aload_n 0, 1), (67, .sipush 200, 3), (70, .iload_n 1, 1), (71, .invokevirtual 215, 3), (74, .ireturn, 1)]
def mX9_isReadWithout : a_Mth := (9, ⟨"BillWallModel", "isReadWithout", "(II)Z"⟩, prog_11_method_52_code, 4, (Option.some FieldType.boolean), 5, 118, (6, 61), ilX9_isReadWithout)
def ilX9_reveal : a_IL := [(0, .aload_n 0, 1), (1, .iload_n 1, 1), (2, .invokevirtual 231, 3), (5, .ifCond .ne 6, 3), (8, .ldc 184, 2), (10, .ireturn, 1), (11, .aload_n 0, 1), (12, .iload_n 1, 1), (13, .invokevirtual 240, 3), (16, .istore_n 2, 1), (17, .aload_n 0, 1), (18, .getfield 7, 3), (21, .bipush 80, 2), (23, .iload_n 1, 1), (24, .iadd, 1), (25, .iaload, 1), (26, .ifCond .eq 12, 3), (29, .iload_n 2, 1), (30, .invokestatic 247, 3), (33, .bipush 12, 2), (35, .if_icmp .le 6, 3), (38, .ldc 224, 2), (40, .ireturn, 1), (41, .iconst 0, 1), (42, .istore_n 3, 1), (43, .iload_n 3, 1), (44, .aload_n 0, 1), (45, .getfield 7, 3), (48, .sipush 180, 3), (51, .iaload, 1), (52, .if_icmp .ge 20, 3), (55, .aload_n 0, 1), (56, .getfield 51, 3), (59, .iload_n 3, 1), (60, .aload_n 0, 1), (61, .iload_n 3, 1), (62, .invokevirtual 237, 3), (65, .iastore, 1), (66, .iinc 3 1, 3), (69, .goto (-26), 3), (72, .iconst (-1), 1), (73, .istore_n 3, 1), (74, .iconst 0, 1), (75, .istore 4, 2), (77, .iconst 1, 1), (78, .istore 5, 2), (80, .iload 5, 2), (82, .ifCond .eq 69, 3), (85, .iload_n 3, 1), (86, .ifCond .lt 15, 3), (89, .iload 4, 2), (91, .invokestatic 247, 3), (94, .iload_n 3, 1), (95, .invokestatic 247, 3), (98, .if_icmp .ge 25, 3), (101, .aload_n 0, 1), (102, .iload 4, 2), (104, .invokevirtual 250, 3), (107, .ifCond .eq 16, 3), (110, .aload_n 0, 1), (111, .iload_n 1, 1), (112, .iload 4, 2), (114, .invokevirtual 253, 3), (117, .ifCond .eq 6, 3), (120, .iload 4, 2), (122, .istore_n 3, 1), (123, .iload 4, 2), (125, .iload_n 2, 1), (126, .if_icmp .eq 7, 3), (129, .iconst 1, 1), (130, .goto 4, 3), (133, .iconst 0, 1), (134, .istore 5, 2), (136, .iload 4, 2), (138, .iload_n 2, 1), (139, .iconst (-1), 1), (140, .ixor, 1), (141, .ior, 1), (142, .iconst 1, 1), (143, .iadd, 1), (144, .iload_n 2, 1), (145, .iand, 1), (146, .istore 4, 2), (148, .goto (-68), 3), (151, .iload_n 3, 1), (152, .ireturn, 1)]
def mX9_reveal : a_Mth := (9, ⟨"BillWallModel", "reveal", "(I)I"⟩, prog_11_method_53_code, 6, (Option.some FieldType.int), 6, 141, (6, 50), ilX9_reveal)
def ilX9_peel : a_IL := [(0, .aload_n 0, 1), (1, .iload_n 1, 1), (2, .invokevirtual 231, 3), (5, .ifCond .ne 6, 3), (8, .ldc 184, 2), (10, .ireturn, 1), (11, .aload_n 0, 1), (12, .getfield 7, 3), (15, .bipush 80, 2), (17, .iload_n 1, 1), (18, .iadd, 1), (19, .iaload, 1), (20, .ifCond .eq 11, 3), (23, .aload_n 0, 1), (24, .iload_n 1, 1), (25, .invokevirtual 237, 3), (28, .ifCond .eq 6, 3), (31, .ldc 224, 2), (33, .ireturn, 1), (34, .iconst 0, 1), (35, .istore_n 2, 1), (36, .iconst 0, 1), (37, .istore_n 3, 1), (38, .iload_n 3, 1), (39, .sipush 128, 3), (42, .if_icmp .ge 59, 3), (45, .aload_n 0, 1), (46, .iconst 0, 1), (47, .iload_n 3, 1), (48, .invokevirtual 203, 3), (51, .iload_n 1, 1), (52, .if_icmp .ne 43, 3), (55, .aload_n 0, 1), (56, .getfield 7, 3), (59, .bipush 80, 2), (61, .iload_n 1, 1), (62, .iadd, 1), (63, .iconst 0, 1), (64, .iastore, 1), (65, .iload_n 2, 1), (66, .aload_n 0, 1), (67, .iconst 0, 1), (68, .iload_n 3, 1), (69, .invokevirtual 203, 3), (72, .ifCond .lt 7, 3), (75, .iconst 1, 1), (76, .goto 4, 3), (79, .iconst 0, 1), (80, .invokestatic 188, 3), (83, .iadd, 1), (84, .istore_n 2, 1), (85, .aload_n 0, 1), (86, .getfield 7, 3), (89, .bipush 80, 2), (91, .iload_n 1, 1), (92, .iadd, 1), (93, .iconst 1, 1), (94, .iastore, 1), (95, .iinc 3 1, 3), (98, .goto (-60), 3), (101, .aload_n 0, 1), (102, .getfield 7, 3), (105, .bipush 80, 2), (107, .iload_n 1, 1), (108, .iadd, 1), (109, .iconst 0, 1), (110, .iastore, 1), (111, .iload_n 2, 1), (112, .ireturn, 1)]
def mX9_peel : a_Mth := (9, ⟨"BillWallModel", "peel", "(I)I"⟩, prog_11_method_54_code, 4, (Option.some FieldType.int), 4, 97, (6, 69), ilX9_peel)
def ilX9_tearAt : a_IL := [(0, .aload_n 0, 1), (1, .iconst 0, 1), (2, .iload_n 1, 1), (3, .invokevirtual 203, 3), (6, .istore_n 2, 1), (7, .iload_n 2, 1), (8, .ifCond .lt 28, 3), (11, .aload_n 0, 1), (12, .getfield 7, 3), (15, .bipush 100, 2), (17, .iconst 4, 1), (18, .iload_n 2, 1), (19, .imul, 1), (20, .iadd, 1), (21, .iload_n 1, 1), (22, .bipush 32, 2), (24, .idiv, 1), (25, .iadd, 1), (26, .dup2, 1), (27, .iaload, 1), (28, .iconst 1, 1), (29, .iload_n 1, 1), (30, .bipush 32, 2), (32, .irem, 1), (33, .ishl, 1), (34, .ior, 1), (35, .iastore, 1), (36, .iload_n 2, 1), (37, .ireturn, 1)]
def mX9_tearAt : a_Mth := (9, ⟨"BillWallModel", "tearAt", "(I)I"⟩, prog_11_method_55_code, 3, (Option.some FieldType.int), 4, 95, (6, 77), ilX9_tearAt)
def ilX9_tear : a_IL := [(0, .aload_n 0, 1), (1, .iload_n 1, 1), (2, .iload_n 2, 1), (3, .invokevirtual 185, 3), (6, .ifCond .eq 16, 3), (9, .aload_n 0, 1), (10, .bipush 16, 2), (12, .iload_n 2, 1), (13, .imul, 1), (14, .iload_n 1, 1), (15, .iadd, 1), (16, .invokevirtual 256, 3), (19, .goto 5, 3), (22, .ldc 82, 2), (24, .ireturn, 1)]
def mX9_tear : a_Mth := (9, ⟨"BillWallModel", "tear", "(II)I"⟩, prog_11_method_56_code, 3, (Option.some FieldType.int), 5, 117, (6, 73), ilX9_tear)
def ilX9_draw : a_IL := [(0, .aload_n 0, 1), (1, .getfield 7, 3), (4, .sipush 190, 3), (7, .aload_n 0, 1), (8, .getfield 7, 3), (11, .sipush 190, 3), (14, .iaload, 1), (15, .i2l, 1), (16, .ldc2_w 259, 3), (19, .lmul, 1), (20, .ldc2_w 261, 3), (23, .ladd, 1), (24, .ldc2_w 263, 3), (27, .lrem, 1), (28, .l2i, 1), (29, .iastore, 1), (30, .aload_n 0, 1), (31, .getfield 7, 3), (34, .sipush 190, 3), (37, .iaload, 1), (38, .ldc_w 265, 3), (41, .idiv, 1), (42, .iload_n 1, 1), (43, .irem, 1), (44, .ireturn, 1)]
def mX9_draw : a_Mth := (9, ⟨"BillWallModel", "draw", "(I)I"⟩, prog_11_method_57_code, 2, (Option.some FieldType.int), 0, 0, (6, 86), ilX9_draw)
def ilX9_rain : a_IL := [(0, .iload_n 1, 1), (1, .i2l, 1), (2, .lconst 0, 1), (3, .ldc2_w 266, 3), (6, .invokestatic 78, 3), (9, .ifCond .ne 6, 3), (12, .ldc 82, 2), (14, .ireturn, 1), (15, .iconst 0, 1), (16, .istore_n 2, 1), (17, .iconst 0, 1), (18, .istore_n 3, 1), (19, .iload_n 3, 1), (20, .sipush 128, 3), (23, .if_icmp .ge 38, 3), (26, .aload_n 0, 1), (27, .iconst 0, 1), (28, .iload_n 3, 1), (29, .invokevirtual 203, 3), (32, .ifCond .lt 23, 3), (35, .aload_n 0, 1), (36, .bipush 100, 2), (38, .invokevirtual 268, 3), (41, .iload_n 1, 1), (42, .if_icmp .ge 13, 3), (45, .aload_n 0, 1), (46, .iload_n 3, 1), (47, .invokevirtual 256, 3), (50, .istore 4, 2), (52, .iinc 2 1, 3), (55, .iinc 3 1, 3), (58, .goto (-39), 3), (61, .iload_n 2, 1), (62, .ireturn, 1)]
def mX9_rain : a_Mth := (9, ⟨"BillWallModel", "rain", "(I)I"⟩, prog_11_method_58_code, 5, (Option.some FieldType.int), 5, 117, (6, 81), ilX9_rain)
def ilX9_onMany : a_IL := [(0, .iconst 0, 1), (1, .istore_n 2, 1), (2, .iconst 0, 1), (3, .istore_n 3, 1), (4, .iload_n 3, 1), (5, .aload_n 0, 1), (6, .getfield 7, 3), (9, .sipush 180, 3), (12, .iaload, 1), (13, .if_icmp .ge 43, 3), (16, .iload_n 2, 1), (17, .aload_n 0, 1), (18, .getfield 7, 3), (21, .bipush 80, 2), (23, .iload_n 3, 1), (24, .iadd, 1), (25, .iaload, 1), (26, .iconst 1, 1), (27, .if_icmp .ne 17, 3), (30, .aload_n 0, 1), (31, .iconst 0, 1), (32, .iload_n 3, 1), (33, .invokevirtual 212, 3), (36, .iload_n 1, 1), (37, .if_icmp .ne 7, 3), (40, .iconst 1, 1), (41, .goto 4, 3), (44, .iconst 0, 1), (45, .invokestatic 188, 3), (48, .iadd, 1), (49, .istore_n 2, 1), (50, .iinc 3 1, 3), (53, .goto (-49), 3), (56, .iload_n 2, 1), (57, .ireturn, 1)]
def mX9_onMany : a_Mth := (9, ⟨"BillWallModel", "onMany", "(I)I"⟩, prog_11_method_59_code, 4, (Option.some FieldType.int), 1, 22, (6, 103), ilX9_onMany)
def ilX9_owner : a_IL := [(0, .iload_n 1, 1), (1, .i2l, 1), (2, .lconst 0, 1), (3, .ldc2_w 271, 3), (6, .invokestatic 78, 3), (9, .ifCond .ne 6, 3), (12, .ldc 184, 2), (14, .ireturn, 1), (15, .iload_n 2, 1), (16, .ifCond .ne 12, 3), (19, .aload_n 0, 1), (20, .iconst 0, 1), (21, .iload_n 1, 1), (22, .invokevirtual 273, 3), (25, .goto 36, 3), (28, .iload_n 2, 1), (29, .iconst 1, 1), (30, .if_icmp .ne 16, 3), (33, .aload_n 0, 1), (34, .getfield 7, 3), (37, .sipush 182, 3), (40, .iload_n 1, 1), (41, .iadd, 1), (42, .iaload, 1), (43, .goto 18, 3), (46, .iload_n 2, 1), (47, .iconst 2, 1), (48, .if_icmp .ne 11, 3), (51, .aload_n 0, 1), (52, .iload_n 1, 1), (53, .invokevirtual 276, 3), (56, .goto 5, 3), (59, .ldc 82, 2), (61, .ireturn, 1)]
def mX9_owner : a_Mth := (9, ⟨"BillWallModel", "owner", "(II)I"⟩, prog_11_method_60_code, 3, (Option.some FieldType.int), 6, 142, (6, 94), ilX9_owner)
def ilX9_show : a_IL := [(0, .aload_n 0, 1), (1, .iload_n 1, 1), (2, .invokevirtual 180, 3), (5, .ifCond .ne 6, 3), (8, .ldc 184, 2), (10, .ireturn, 1), (11, .aload_n 0, 1), (12, .iload_n 1, 1), (13, .iload_n 2, 1), (14, .iload_n 3, 1), (15, .invokevirtual 218, 3), (18, .ifCond .ne 6, 3), (21, .ldc 82, 2), (23, .ireturn, 1), (24, .aload_n 0, 1), (25, .getfield 177, 3), (28, .bipush 10, 2), (30, .if_icmp .ne 6, 3), (33, .ldc 86, 2), (35, .ireturn, 1), (36, .aload_n 0, 1), (37, .getfield 54, 3), (40, .aload_n 0, 1), (41, .getfield 177, 3), (44, .iload_n 1, 1), (45, .iastore, 1), (46, .aload_n 0, 1), (47, .getfield 57, 3), (50, .aload_n 0, 1), (51, .getfield 177, 3), (54, .iload_n 2, 1), (55, .iastore, 1), (56, .aload_n 0, 1), (57, .getfield 60, 3), (60, .aload_n 0, 1), (61, .getfield 177, 3), (64, .iload_n 3, 1), (65, .iastore, 1), (66, .aload_n 0, 1), (67, .dup, 1), (68, .getfield 177, 3), (71, .iconst 1, 1), (72, .iadd, 1), (73, .putfield 177, 3), (76, .aload_n 0, 1), (77, .getfield 177, 3), (80, .iconst 1, 1), (81, .isub, 1), (82, .ireturn, 1)]
def mX9_show : a_Mth := (9, ⟨"BillWallModel", "show", "(III)I"⟩, prog_11_method_61_code, 4, (Option.some FieldType.int), 2, 46, (6, 107), ilX9_show)
def ilX9_look : a_IL := [(0, .iload_n 3, 1), (1, .iconst (-1), 1), (2, .if_icmp .eq 22, 3), (5, .iload_n 3, 1), (6, .i2l, 1), (7, .lconst 0, 1), (8, .aload_n 0, 1), (9, .getfield 177, 3), (12, .iconst 1, 1), (13, .isub, 1), (14, .i2l, 1), (15, .invokestatic 78, 3), (18, .ifCond .ne 6, 3), (21, .ldc 184, 2), (23, .ireturn, 1), (24, .aload_n 0, 1), (25, .iload_n 1, 1), (26, .iload_n 2, 1), (27, .invokevirtual 185, 3), (30, .ifCond .ne 6, 3), (33, .ldc 82, 2), (35, .ireturn, 1), (36, .aload_n 0, 1), (37, .getfield 63, 3), (40, .bipush 16, 2), (42, .iload_n 2, 1), (43, .imul, 1), (44, .iload_n 1, 1), (45, .iadd, 1), (46, .iconst 2, 1), (47, .iload_n 3, 1), (48, .iadd, 1), (49, .iastore, 1), (50, .iconst 1, 1), (51, .ireturn, 1)]
def mX9_look : a_Mth := (9, ⟨"BillWallModel", "look", "(III)I"⟩, prog_11_method_62_code, 4, (Option.some FieldType.int), 2, 47, (6, 111), ilX9_look)
def ilX9_burn : a_IL := [(0, .aload_n 0, 1), (1, .getfield 177, 3), (4, .istore_n 1, 1), (5, .aload_n 0, 1), (6, .iconst 0, 1), (7, .putfield 177, 3), (10, .iconst 0, 1), (11, .istore_n 2, 1), (12, .iload_n 2, 1), (13, .sipush 128, 3), (16, .if_icmp .ge 16, 3), (19, .aload_n 0, 1), (20, .getfield 63, 3), (23, .iload_n 2, 1), (24, .iconst 0, 1), (25, .iastore, 1), (26, .iinc 2 1, 3), (29, .goto (-17), 3), (32, .iload_n 1, 1), (33, .ireturn, 1)]
def mX9_burn : a_Mth := (9, ⟨"BillWallModel", "burn", "()I"⟩, prog_11_method_63_code, 3, (Option.some FieldType.int), 0, 0, (5, 168), ilX9_burn)
def ilX9_hasCell : a_IL := [(0, .aload_n 0, 1), (1, .aload_n 0, 1), (2, .getfield 54, 3), (5, .iload_n 1, 1), (6, .iaload, 1), (7, .aload_n 0, 1), (8, .getfield 57, 3), (11, .iload_n 1, 1), (12, .iaload, 1), (13, .aload_n 0, 1), (14, .getfield 60, 3), (17, .iload_n 1, 1), (18, .iaload, 1), (19, .iload_n 2, 1), (20, .invokevirtual 192, 3), (23, .ireturn, 1)]
def mX9_hasCell : a_Mth := (9, ⟨"BillWallModel", "hasCell", "(II)Z"⟩, prog_11_method_64_code, 3, (Option.some FieldType.boolean), 2, 49, (6, 128), ilX9_hasCell)
def ilX9_findBelow : a_IL := [(0, .iconst 1, 1), (1, .istore_n 1, 1), (2, .iconst 0, 1), (3, .istore_n 2, 1), (4, .iload_n 2, 1), (5, .aload_n 0, 1), (6, .getfield 177, 3), (9, .if_icmp .ge 16, 3), (12, .aload_n 0, 1), (13, .getfield 66, 3), (16, .iload_n 2, 1), (17, .iconst 0, 1), (18, .iastore, 1), (19, .iinc 2 1, 3), (22, .goto (-18), 3), (25, .iconst 0, 1), (26, .istore_n 2, 1), (27, .iload_n 2, 1), (28, .sipush 128, 3), (31, .if_icmp .ge 121, 3), (34, .aload_n 0, 1), (35, .getfield 63, 3), (38, .iload_n 2, 1), (39, .iaload, 1), (40, .iconst 2, 1), (41, .isub, 1), (42, .istore_n 3, 1), (43, .iload_n 1, 1), (44, .ifCond .eq 20, 3), (47, .iload_n 3, 1), (48, .ifCond .lt 12, 3), (51, .aload_n 0, 1), (52, .iload_n 3, 1), (53, .iload_n 2, 1), (54, .invokevirtual 279, 3), (57, .ifCond .eq 7, 3), (60, .iconst 1, 1), (61, .goto 4, 3), (64, .iconst 0, 1), (65, .istore_n 1, 1), (66, .iconst 0, 1), (67, .istore 4, 2), (69, .iload 4, 2), (71, .aload_n 0, 1), (72, .getfield 177, 3), (75, .if_icmp .ge 71, 3), (78, .aload_n 0, 1), (79, .iload 4, 2), (81, .iload_n 2, 1), (82, .invokevirtual 279, 3), (85, .istore 5, 2), (87, .iload_n 1, 1), (88, .ifCond .eq 22, 3), (91, .aload_n 0, 1), (92, .getfield 63, 3), (95, .iload_n 2, 1), (96, .iaload, 1), (97, .iconst 1, 1), (98, .if_icmp .ne 8, 3), (101, .iload 5, 2), (103, .ifCond .ne 7, 3), (106, .iconst 1, 1), (107, .goto 4, 3), (110, .iconst 0, 1), (111, .istore_n 1, 1), (112, .iload_n 3, 1), (113, .ifCond .lt 27, 3), (116, .iload 5, 2), (118, .ifCond .eq 22, 3), (121, .iload 4, 2), (123, .iload_n 3, 1), (124, .if_icmp .eq 16, 3), (127, .aload_n 0, 1), (128, .getfield 66, 3), (131, .iload_n 3, 1), (132, .dup2, 1), (133, .iaload, 1), (134, .iconst 1, 1), (135, .iload 4, 2), (137, .ishl, 1), (138, .ior, 1), (139, .iastore, 1), (140, .iinc 4 1, 3), (143, .goto (-74), 3), (146, .iinc 2 1, 3), (149, .goto (-122), 3), (152, .iload_n 1, 1), (153, .ireturn, 1)]
def mX9_findBelow : a_Mth := (9, ⟨"BillWallModel", "findBelow", "()Z"⟩, prog_11_method_65_code, 6, (Option.some FieldType.boolean), 3, 71, (6, 124), ilX9_findBelow)
def ilX9_ordersOf : a_IL := [(0, .aload_n 0, 1), (1, .invokevirtual 282, 3), (4, .ifCond .ne 5, 3), (7, .iconst 0, 1), (8, .ireturn, 1), (9, .iconst 0, 1), (10, .istore_n 1, 1), (11, .iload_n 1, 1), (12, .iconst 1, 1), (13, .aload_n 0, 1), (14, .getfield 177, 3), (17, .ishl, 1), (18, .if_icmp .ge 91, 3), (21, .aload_n 0, 1), (22, .getfield 69, 3), (25, .iload_n 1, 1), (26, .iload_n 1, 1), (27, .ifCond .ne 7, 3), (30, .iconst 1, 1), (31, .goto 4, 3), (34, .iconst 0, 1), (35, .invokestatic 188, 3), (38, .iastore, 1), (39, .iconst 0, 1), (40, .istore_n 2, 1), (41, .iload_n 2, 1), (42, .aload_n 0, 1), (43, .getfield 177, 3), (46, .if_icmp .ge 57, 3), (49, .iload_n 1, 1), (50, .iconst 1, 1), (51, .iload_n 2, 1), (52, .ishl, 1), (53, .iconst (-1), 1), (54, .ixor, 1), (55, .iand, 1), (56, .istore_n 3, 1), (57, .aload_n 0, 1), (58, .getfield 69, 3), (61, .iload_n 1, 1), (62, .dup2, 1), (63, .iaload, 1), (64, .iload_n 1, 1), (65, .iload_n 2, 1), (66, .invokestatic 121, 3), (69, .ifCond .eq 25, 3), (72, .aload_n 0, 1), (73, .getfield 66, 3), (76, .iload_n 2, 1), (77, .iaload, 1), (78, .iload_n 3, 1), (79, .iconst (-1), 1), (80, .ixor, 1), (81, .iand, 1), (82, .ifCond .ne 12, 3), (85, .aload_n 0, 1), (86, .getfield 69, 3), (89, .iload_n 3, 1), (90, .iaload, 1), (91, .goto 4, 3), (94, .iconst 0, 1), (95, .iadd, 1), (96, .iastore, 1), (97, .iinc 2 1, 3), (100, .goto (-59), 3), (103, .iinc 1 1, 3), (106, .goto (-95), 3), (109, .aload_n 0, 1), (110, .getfield 69, 3), (113, .iconst 1, 1), (114, .aload_n 0, 1), (115, .getfield 177, 3), (118, .ishl, 1), (119, .iconst 1, 1), (120, .isub, 1), (121, .iaload, 1), (122, .ireturn, 1)]
def mX9_ordersOf : a_Mth := (9, ⟨"BillWallModel", "ordersOf", "()I"⟩, prog_11_method_66_code, 4, (Option.some FieldType.int), 4, 96, (6, 120), ilX9_ordersOf)
def ilX9_orders : a_IL := [(0, .aload_n 0, 1), (1, .invokevirtual 286, 3), (4, .ireturn, 1)]
def mX9_orders : a_Mth := (9, ⟨"BillWallModel", "orders", "()I"⟩, prog_11_method_67_code, 1, (Option.some FieldType.int), 5, 119, (6, 116), ilX9_orders)
def ilX9_order : a_IL := [(0, .iload_n 1, 1), (1, .ifCond .ge 6, 3), (4, .ldc 82, 2), (6, .ireturn, 1), (7, .iload_n 1, 1), (8, .aload_n 0, 1), (9, .getfield 177, 3), (12, .if_icmp .ge 10, 3), (15, .aload_n 0, 1), (16, .invokevirtual 286, 3), (19, .ifCond .ne 5, 3), (22, .iconst (-1), 1), (23, .ireturn, 1), (24, .iconst 0, 1), (25, .istore_n 2, 1), (26, .iconst (-1), 1), (27, .istore_n 3, 1), (28, .iconst 0, 1), (29, .istore 4, 2), (31, .iload 4, 2), (33, .iload_n 1, 1), (34, .if_icmp .gt 44, 3), (37, .iconst 0, 1), (38, .istore_n 3, 1), (39, .iload_n 2, 1), (40, .iload_n 3, 1), (41, .invokestatic 121, 3), (44, .ifCond .ne 16, 3), (47, .aload_n 0, 1), (48, .getfield 66, 3), (51, .iload_n 3, 1), (52, .iaload, 1), (53, .iload_n 2, 1), (54, .iconst (-1), 1), (55, .ixor, 1), (56, .iand, 1), (57, .ifCond .eq 9, 3), (60, .iinc 3 1, 3), (63, .goto (-24), 3), (66, .iload_n 2, 1), (67, .iconst 1, 1), (68, .iload_n 3, 1), (69, .ishl, 1), (70, .ior, 1), (71, .istore_n 2, 1), (72, .iinc 4 1, 3), (75, .goto (-44), 3), (78, .iload_n 3, 1), (79, .ireturn, 1)]
def mX9_order : a_Mth := (9, ⟨"BillWallModel", "order", "(I)I"⟩, prog_11_method_68_code, 5, (Option.some FieldType.int), 5, 119, (6, 132), ilX9_order)
def ilX9_surely : a_IL := [(0, .iload_n 1, 1), (1, .i2l, 1), (2, .lconst 0, 1), (3, .aload_n 0, 1), (4, .getfield 177, 3), (7, .iconst 1, 1), (8, .isub, 1), (9, .i2l, 1), (10, .invokestatic 78, 3), (13, .ifCond .eq 24, 3), (16, .iload_n 2, 1), (17, .i2l, 1), (18, .lconst 0, 1), (19, .aload_n 0, 1), (20, .getfield 177, 3), (23, .iconst 1, 1), (24, .isub, 1), (25, .i2l, 1), (26, .invokestatic 78, 3), (29, .ifCond .eq 8, 3), (32, .iload_n 1, 1), (33, .iload_n 2, 1), (34, .if_icmp .ne 6, 3), (37, .ldc 184, 2), (39, .ireturn, 1), (40, .aload_n 0, 1), (41, .invokevirtual 286, 3), (44, .ifCond .ne 5, 3), (47, .iconst 0, 1), (48, .ireturn, 1), (49, .aload_n 0, 1), (50, .getfield 66, 3), (53, .iload_n 1, 1), (54, .iaload, 1), (55, .istore_n 3, 1), (56, .iconst 0, 1), (57, .istore 4, 2), (59, .iload 4, 2), (61, .aload_n 0, 1), (62, .getfield 177, 3), (65, .if_icmp .ge 50, 3), (68, .iconst 0, 1), (69, .istore 5, 2), (71, .iload 5, 2), (73, .aload_n 0, 1), (74, .getfield 177, 3), (77, .if_icmp .ge 32, 3), (80, .iload_n 3, 1), (81, .iload_n 3, 1), (82, .iload 5, 2), (84, .invokestatic 121, 3), (87, .ifCond .eq 13, 3), (90, .aload_n 0, 1), (91, .getfield 66, 3), (94, .iload 5, 2), (96, .iaload, 1), (97, .goto 4, 3), (100, .iconst 0, 1), (101, .ior, 1), (102, .istore_n 3, 1), (103, .iinc 5 1, 3), (106, .goto (-35), 3), (109, .iinc 4 1, 3), (112, .goto (-53), 3), (115, .iload_n 3, 1), (116, .iload_n 2, 1), (117, .invokestatic 121, 3), (120, .invokestatic 188, 3), (123, .ireturn, 1)]
def mX9_surely : a_Mth := (9, ⟨"BillWallModel", "surely", "(II)I"⟩, prog_11_method_69_code, 6, (Option.some FieldType.int), 5, 119, (6, 136), ilX9_surely)
def ilX9_undo : a_IL := [(0, .aload_n 0, 1), (1, .getfield 7, 3), (4, .iload_n 1, 1), (5, .sipush 180, 3), (8, .iadd, 1), (9, .dup2, 1), (10, .iaload, 1), (11, .iconst 1, 1), (12, .isub, 1), (13, .iastore, 1), (14, .aload_n 0, 1), (15, .getfield 7, 3), (18, .iload_n 1, 1), (19, .sipush 180, 3), (22, .iadd, 1), (23, .iaload, 1), (24, .istore_n 3, 1), (25, .aload_n 0, 1), (26, .getfield 7, 3), (29, .iload_n 1, 1), (30, .sipush 182, 3), (33, .iadd, 1), (34, .aload_n 0, 1), (35, .getfield 26, 3), (38, .aload_n 0, 1), (39, .getfield 7, 3), (42, .iload_n 1, 1), (43, .iload_n 3, 1), (44, .iadd, 1), (45, .iaload, 1), (46, .iaload, 1), (47, .iadd, 1), (48, .dup2, 1), (49, .iaload, 1), (50, .iload_n 2, 1), (51, .isub, 1), (52, .iastore, 1), (53, .aload_n 0, 1), (54, .getfield 7, 3), (57, .iload_n 1, 1), (58, .bipush 80, 2), (60, .iadd, 1), (61, .iload_n 3, 1), (62, .iadd, 1), (63, .iconst 0, 1), (64, .iastore, 1), (65, .return_, 1)]
def mX9_undo : a_Mth := (9, ⟨"BillWallModel", "undo", "(II)V"⟩, prog_11_method_70_code, 4, (Option.none : Option FieldType), 0, 0, (6, 153), ilX9_undo)
def ilX9_isPlace : a_IL := [(0, .aload_n 0, 1), (1, .iload_n 1, 1), (2, .iload_n 2, 1), (3, .bipush 16, 2), (5, .irem, 1), (6, .iload_n 2, 1), (7, .bipush 16, 2), (9, .idiv, 1), (10, .invokevirtual 218, 3), (13, .ifCond .eq 23, 3), (16, .aload_n 0, 1), (17, .iload_n 1, 1), (18, .iload_n 2, 1), (19, .bipush 16, 2), (21, .irem, 1), (22, .iload_n 2, 1), (23, .bipush 16, 2), (25, .idiv, 1), (26, .invokevirtual 221, 3), (29, .ifCond .eq 7, 3), (32, .iconst 1, 1), (33, .goto 4, 3), (36, .iconst 0, 1), (37, .ireturn, 1)]
def mX9_isPlace : a_Mth := (9, ⟨"BillWallModel", "isPlace", "(II)Z"⟩, prog_11_method_71_code, 3, (Option.some FieldType.boolean), 3, 74, (6, 149), ilX9_isPlace)
def ilX9_findBest : a_IL := [(0, .aload_n 0, 1), (1, .iconst (-1), 1), (2, .putfield 289, 3), (5, .aload_n 0, 1), (6, .iload_n 1, 1), (7, .aload_n 0, 1), (8, .getfield 26, 3), (11, .iload_n 2, 1), (12, .iaload, 1), (13, .invokevirtual 273, 3), (16, .istore_n 3, 1), (17, .iconst 0, 1), (18, .istore 4, 2), (20, .iload 4, 2), (22, .sipush 128, 3), (25, .if_icmp .ge 90, 3), (28, .aload_n 0, 1), (29, .iload_n 2, 1), (30, .iload 4, 2), (32, .invokevirtual 292, 3), (35, .ifCond .eq 74, 3), (38, .aload_n 0, 1), (39, .iload_n 1, 1), (40, .iload_n 2, 1), (41, .iload 4, 2), (43, .bipush 16, 2), (45, .irem, 1), (46, .iload 4, 2), (48, .bipush 16, 2), (50, .idiv, 1), (51, .invokevirtual 225, 3), (54, .istore 5, 2), (56, .aload_n 0, 1), (57, .iload_n 1, 1), (58, .aload_n 0, 1), (59, .getfield 26, 3), (62, .iload_n 2, 1), (63, .iaload, 1), (64, .invokevirtual 273, 3), (67, .iload_n 3, 1), (68, .isub, 1), (69, .iload 5, 2), (71, .isub, 1), (72, .istore 6, 2), (74, .aload_n 0, 1), (75, .iload_n 1, 1), (76, .iload 5, 2), (78, .invokevirtual 295, 3), (81, .aload_n 0, 1), (82, .getfield 289, 3), (85, .ifCond .lt 12, 3), (88, .iload 6, 2), (90, .aload_n 0, 1), (91, .getfield 298, 3), (94, .if_icmp .le 15, 3), (97, .aload_n 0, 1), (98, .iload 4, 2), (100, .putfield 289, 3), (103, .aload_n 0, 1), (104, .iload 6, 2), (106, .putfield 298, 3), (109, .iinc 4 1, 3), (112, .goto (-92), 3), (115, .return_, 1)]
def mX9_findBest : a_Mth := (9, ⟨"BillWallModel", "findBest", "(II)V"⟩, prog_11_method_72_code, 7, (Option.none : Option FieldType), 6, 146, (6, 145), ilX9_findBest)
def ilX9_best : a_IL := [(0, .aload_n 0, 1), (1, .iload_n 1, 1), (2, .invokevirtual 180, 3), (5, .ifCond .ne 6, 3), (8, .ldc 184, 2), (10, .ireturn, 1), (11, .iload_n 2, 1), (12, .i2l, 1), (13, .lconst 0, 1), (14, .ldc2_w 301, 3), (17, .invokestatic 78, 3), (20, .ifCond .ne 6, 3), (23, .ldc 82, 2), (25, .ireturn, 1), (26, .aload_n 0, 1), (27, .getfield 7, 3), (30, .sipush 180, 3), (33, .iaload, 1), (34, .bipush 20, 2), (36, .if_icmp .ne 6, 3), (39, .ldc 224, 2), (41, .ireturn, 1), (42, .aload_n 0, 1), (43, .iconst 0, 1), (44, .sipush 200, 3), (47, .invokevirtual 243, 3), (50, .aload_n 0, 1), (51, .sipush 200, 3), (54, .iload_n 1, 1), (55, .invokevirtual 303, 3), (58, .aload_n 0, 1), (59, .getfield 289, 3), (62, .ifCond .ge 8, 3), (65, .ldc 224, 2), (67, .goto 36, 3), (70, .iload_n 2, 1), (71, .ifCond .ne 13, 3), (74, .aload_n 0, 1), (75, .getfield 289, 3), (78, .bipush 16, 2), (80, .irem, 1), (81, .goto 22, 3), (84, .iload_n 2, 1), (85, .iconst 1, 1), (86, .if_icmp .ne 13, 3), (89, .aload_n 0, 1), (90, .getfield 289, 3), (93, .bipush 16, 2), (95, .idiv, 1), (96, .goto 7, 3), (99, .aload_n 0, 1), (100, .getfield 298, 3), (103, .ireturn, 1)]
def mX9_best : a_Mth := (9, ⟨"BillWallModel", "best", "(II)I"⟩, prog_11_method_73_code, 3, (Option.some FieldType.int), 7, 172, (6, 140), ilX9_best)
def ilX9_two : a_IL := [(0, .aload_n 0, 1), (1, .iload_n 1, 1), (2, .invokevirtual 180, 3), (5, .ifCond .eq 11, 3), (8, .aload_n 0, 1), (9, .iload_n 2, 1), (10, .invokevirtual 180, 3), (13, .ifCond .ne 6, 3), (16, .ldc 184, 2), (18, .ireturn, 1), (19, .iload_n 3, 1), (20, .i2l, 1), (21, .lconst 0, 1), (22, .ldc2_w 306, 3), (25, .invokestatic 78, 3), (28, .ifCond .ne 6, 3), (31, .ldc 82, 2), (33, .ireturn, 1), (34, .aload_n 0, 1), (35, .getfield 26, 3), (38, .iload_n 1, 1), (39, .iaload, 1), (40, .aload_n 0, 1), (41, .getfield 26, 3), (44, .iload_n 2, 1), (45, .iaload, 1), (46, .if_icmp .ne 16, 3), (49, .aload_n 0, 1), (50, .getfield 7, 3), (53, .sipush 180, 3), (56, .iaload, 1), (57, .bipush 18, 2), (59, .if_icmp .le 6, 3), (62, .ldc 224, 2), (64, .ireturn, 1), (65, .aload_n 0, 1), (66, .iconst 0, 1), (67, .sipush 200, 3), (70, .invokevirtual 243, 3), (73, .aload_n 0, 1), (74, .sipush 200, 3), (77, .aload_n 0, 1), (78, .getfield 26, 3), (81, .iload_n 1, 1), (82, .iaload, 1), (83, .invokevirtual 273, 3), (86, .istore 4, 2), (88, .iconst (-1), 1), (89, .istore 5, 2), (91, .iconst 0, 1), (92, .istore 6, 2), (94, .iconst 0, 1), (95, .istore 7, 2), (97, .iload 7, 2), (99, .sipush 128, 3), (102, .if_icmp .ge 122, 3), (105, .aload_n 0, 1), (106, .iload_n 1, 1), (107, .iload 7, 2), (109, .invokevirtual 292, 3), (112, .ifCond .eq 106, 3), (115, .aload_n 0, 1), (116, .sipush 200, 3), (119, .iload_n 1, 1), (120, .iload 7, 2), (122, .bipush 16, 2), (124, .irem, 1), (125, .iload 7, 2), (127, .bipush 16, 2), (129, .idiv, 1), (130, .invokevirtual 225, 3), (133, .istore 8, 2), (135, .aload_n 0, 1), (136, .sipush 200, 3), (139, .aload_n 0, 1), (140, .getfield 26, 3), (143, .iload_n 1, 1), (144, .iaload, 1), (145, .invokevirtual 273, 3), (148, .istore 9, 2), (150, .aload_n 0, 1), (151, .sipush 200, 3), (154, .iload_n 2, 1), (155, .invokevirtual 303, 3), (158, .iload 9, 2), (160, .iload 4, 2), (162, .isub, 1), (163, .iload 8, 2), (165, .isub, 1), (166, .aload_n 0, 1), (167, .getfield 298, 3), (170, .iadd, 1), (171, .istore 10, 2), (173, .aload_n 0, 1), (174, .sipush 200, 3), (177, .iload 8, 2), (179, .invokevirtual 295, 3), (182, .aload_n 0, 1), (183, .getfield 289, 3), (186, .ifCond .lt 32, 3), (189, .iload 5, 2), (191, .ifCond .lt 10, 3), (194, .iload 10, 2), (196, .iload 6, 2), (198, .if_icmp .le 20, 3), (201, .sipush 128, 3), (204, .iload 7, 2), (206, .imul, 1), (207, .aload_n 0, 1), (208, .getfield 289, 3), (211, .iadd, 1), (212, .istore 5, 2), (214, .iload 10, 2), (216, .istore 6, 2), (218, .iinc 7 1, 3), (221, .goto (-124), 3), (224, .iload 5, 2), (226, .ifCond .ge 6, 3), (229, .ldc 224, 2), (231, .ireturn, 1), (232, .iload_n 3, 1), (233, .iconst 2, 1), (234, .if_icmp .ge 12, 3), (237, .iload 5, 2), (239, .sipush 128, 3), (242, .idiv, 1), (243, .goto 9, 3), (246, .iload 5, 2), (248, .sipush 128, 3), (251, .irem, 1), (252, .istore 7, 2), (254, .iload_n 3, 1), (255, .iconst 4, 1), (256, .if_icmp .ne 8, 3), (259, .iload 6, 2), (261, .goto 22, 3), (264, .iload_n 3, 1), (265, .iconst 2, 1), (266, .irem, 1), (267, .ifCond .ne 11, 3), (270, .iload 7, 2), (272, .bipush 16, 2), (274, .irem, 1), (275, .goto 8, 3), (278, .iload 7, 2), (280, .bipush 16, 2), (282, .idiv, 1), (283, .ireturn, 1)]
def mX9_two : a_Mth := (9, ⟨"BillWallModel", "two", "(III)I"⟩, prog_11_method_74_code, 11, (Option.some FieldType.int), 7, 172, (6, 157), ilX9_two)
def ilX9_takeTurn : a_IL := [(0, .aload_n 0, 1), (1, .getfield 7, 3), (4, .sipush 380, 3), (7, .iaload, 1), (8, .bipush 20, 2), (10, .if_icmp .ge 58, 3), (13, .aload_n 0, 1), (14, .sipush 200, 3), (17, .iload_n 1, 1), (18, .invokevirtual 303, 3), (21, .aload_n 0, 1), (22, .getfield 289, 3), (25, .ifCond .lt 43, 3), (28, .aload_n 0, 1), (29, .getfield 298, 3), (32, .ifCond .le 36, 3), (35, .aload_n 0, 1), (36, .sipush 200, 3), (39, .iload_n 1, 1), (40, .aload_n 0, 1), (41, .getfield 289, 3), (44, .bipush 16, 2), (46, .irem, 1), (47, .aload_n 0, 1), (48, .getfield 289, 3), (51, .bipush 16, 2), (53, .idiv, 1), (54, .invokevirtual 225, 3), (57, .istore_n 2, 1), (58, .aload_n 0, 1), (59, .dup, 1), (60, .getfield 308, 3), (63, .iconst 1, 1), (64, .iadd, 1), (65, .putfield 308, 3), (68, .return_, 1)]
def mX9_takeTurn : a_Mth := (9, ⟨"BillWallModel", "takeTurn", "(I)V"⟩, prog_11_method_75_code, 3, (Option.none : Option FieldType), 7, 172, (6, 167), ilX9_takeTurn)
def ilX9_rivals : a_IL := [(0, .aload_n 0, 1), (1, .iload_n 1, 1), (2, .invokevirtual 180, 3), (5, .ifCond .eq 11, 3), (8, .aload_n 0, 1), (9, .iload_n 2, 1), (10, .invokevirtual 180, 3), (13, .ifCond .ne 6, 3), (16, .ldc 184, 2), (18, .ireturn, 1), (19, .iload_n 3, 1), (20, .i2l, 1), (21, .lconst 1, 1), (22, .ldc2_w 311, 3), (25, .invokestatic 78, 3), (28, .ifCond .eq 16, 3), (31, .iload 4, 2), (33, .i2l, 1), (34, .lconst 0, 1), (35, .ldc2_w 301, 3), (38, .invokestatic 78, 3), (41, .ifCond .ne 6, 3), (44, .ldc 82, 2), (46, .ireturn, 1), (47, .aload_n 0, 1), (48, .iconst 0, 1), (49, .sipush 200, 3), (52, .invokevirtual 243, 3), (55, .aload_n 0, 1), (56, .iconst 0, 1), (57, .putfield 308, 3), (60, .iconst 0, 1), (61, .istore 5, 2), (63, .iload 5, 2), (65, .iload_n 3, 1), (66, .if_icmp .ge 31, 3), (69, .aload_n 0, 1), (70, .iload_n 1, 1), (71, .invokevirtual 313, 3), (74, .aload_n 0, 1), (75, .iload_n 2, 1), (76, .invokevirtual 313, 3), (79, .aload_n 0, 1), (80, .getfield 7, 3), (83, .sipush 381, 3), (86, .dup2, 1), (87, .iaload, 1), (88, .iconst 1, 1), (89, .iadd, 1), (90, .iastore, 1), (91, .iinc 5 1, 3), (94, .goto (-31), 3), (97, .iload 4, 2), (99, .iconst 2, 1), (100, .if_icmp .ne 10, 3), (103, .aload_n 0, 1), (104, .getfield 308, 3), (107, .goto 25, 3), (110, .aload_n 0, 1), (111, .sipush 200, 3), (114, .aload_n 0, 1), (115, .getfield 26, 3), (118, .iload 4, 2), (120, .ifCond .ne 7, 3), (123, .iload_n 1, 1), (124, .goto 4, 3), (127, .iload_n 2, 1), (128, .iaload, 1), (129, .invokevirtual 273, 3), (132, .ireturn, 1)]
def mX9_rivals : a_Mth := (9, ⟨"BillWallModel", "rivals", "(IIII)I"⟩, prog_11_method_76_code, 6, (Option.some FieldType.int), 8, 194, (6, 162), ilX9_rivals)
def ilX9_seed : a_IL := [(0, .iload_n 1, 1), (1, .ifCond .ge 6, 3), (4, .ldc 82, 2), (6, .ireturn, 1), (7, .aload_n 0, 1), (8, .getfield 7, 3), (11, .sipush 190, 3), (14, .iaload, 1), (15, .istore_n 2, 1), (16, .aload_n 0, 1), (17, .getfield 7, 3), (20, .sipush 190, 3), (23, .iload_n 1, 1), (24, .iastore, 1), (25, .iload_n 2, 1), (26, .ireturn, 1)]
def mX9_seed : a_Mth := (9, ⟨"BillWallModel", "seed", "(I)I"⟩, prog_11_method_77_code, 3, (Option.some FieldType.int), 0, 0, (6, 171), ilX9_seed)
def ilX9_keep : a_IL := [(0, .iload_n 1, 1), (1, .i2l, 1), (2, .lconst 0, 1), (3, .lconst 1, 1), (4, .invokestatic 78, 3), (7, .ifCond .ne 6, 3), (10, .ldc 184, 2), (12, .ireturn, 1), (13, .aload_n 0, 1), (14, .iconst 0, 1), (15, .sipush 400, 3), (18, .sipush 200, 3), (21, .iload_n 1, 1), (22, .imul, 1), (23, .iadd, 1), (24, .invokevirtual 243, 3), (27, .aload_n 0, 1), (28, .getfield 13, 3), (31, .iload_n 1, 1), (32, .iconst 1, 1), (33, .bastore, 1), (34, .iconst 1, 1), (35, .ireturn, 1)]
def mX9_keep : a_Mth := (9, ⟨"BillWallModel", "keep", "(I)I"⟩, prog_11_method_78_code, 2, (Option.some FieldType.int), 1, 25, (6, 175), ilX9_keep)
def ilX9_goBack : a_IL := [(0, .iload_n 1, 1), (1, .i2l, 1), (2, .lconst 0, 1), (3, .lconst 1, 1), (4, .invokestatic 78, 3), (7, .ifCond .ne 6, 3), (10, .ldc 184, 2), (12, .ireturn, 1), (13, .aload_n 0, 1), (14, .getfield 13, 3), (17, .iload_n 1, 1), (18, .baload, 1), (19, .ifCond .ne 6, 3), (22, .ldc 224, 2), (24, .ireturn, 1), (25, .aload_n 0, 1), (26, .sipush 400, 3), (29, .sipush 200, 3), (32, .iload_n 1, 1), (33, .imul, 1), (34, .iadd, 1), (35, .iconst 0, 1), (36, .invokevirtual 243, 3), (39, .iconst 1, 1), (40, .ireturn, 1)]
def mX9_goBack : a_Mth := (9, ⟨"BillWallModel", "goBack", "(I)I"⟩, prog_11_method_79_code, 2, (Option.some FieldType.int), 1, 25, (6, 179), ilX9_goBack)
def ilJ6_numberOfLeadingZeros_0f7a4 : a_IL := [(0, .iload_n 0, 1), (1, .ifCond .gt 14, 3), (4, .iload_n 0, 1), (5, .ifCond .ne 8, 3), (8, .bipush 32, 2), (10, .goto 4, 3), (13, .iconst 0, 1), (14, .ireturn, 1), (15, .bipush 31, 2), (17, .istore_n 1, 1), (18, .iload_n 0, 1), (19, .ldc_w 264, 3), (22, .if_icmp .lt 11, 3), (25, .iinc 1 (-16), 3), (28, .iload_n 0, 1), (29, .bipush 16, 2), (31, .iushr, 1), (32, .istore_n 0, 1), (33, .iload_n 0, 1), (34, .sipush 256, 3), (37, .if_icmp .lt 11, 3), (40, .iinc 1 (-8), 3), (43, .iload_n 0, 1), (44, .bipush 8, 2), (46, .iushr, 1), (47, .istore_n 0, 1), (48, .iload_n 0, 1), (49, .bipush 16, 2), (51, .if_icmp .lt 10, 3), (54, .iinc 1 (-4), 3), (57, .iload_n 0, 1), (58, .iconst 4, 1), (59, .iushr, 1), (60, .istore_n 0, 1), (61, .iload_n 0, 1), (62, .iconst 4, 1), (63, .if_icmp .lt 10, 3), (66, .iinc 1 (-2), 3), (69, .iload_n 0, 1), (70, .iconst 2, 1), (71, .iushr, 1), (72, .istore_n 0, 1), (73, .iload_n 1, 1), (74, .iload_n 0, 1), (75, .iconst 1, 1), (76, .iushr, 1), (77, .isub, 1), (78, .ireturn, 1)]
def mJ6_numberOfLeadingZeros_0f7a4 : a_Mth := (11, ⟨"java/lang/Integer", "numberOfLeadingZeros", "(I)I"⟩, prog_12_method_47_code, 2, (Option.some FieldType.int), 0, 0, (3, 143), ilJ6_numberOfLeadingZeros_0f7a4)
def ilJ6_bitCount_0f7a4 : a_IL := [(0, .iload_n 0, 1), (1, .iload_n 0, 1), (2, .iconst 1, 1), (3, .iushr, 1), (4, .ldc_w 265, 3), (7, .iand, 1), (8, .isub, 1), (9, .istore_n 0, 1), (10, .iload_n 0, 1), (11, .ldc_w 266, 3), (14, .iand, 1), (15, .iload_n 0, 1), (16, .iconst 2, 1), (17, .iushr, 1), (18, .ldc_w 266, 3), (21, .iand, 1), (22, .iadd, 1), (23, .istore_n 0, 1), (24, .iload_n 0, 1), (25, .iload_n 0, 1), (26, .iconst 4, 1), (27, .iushr, 1), (28, .iadd, 1), (29, .ldc_w 267, 3), (32, .iand, 1), (33, .istore_n 0, 1), (34, .iload_n 0, 1), (35, .iload_n 0, 1), (36, .bipush 8, 2), (38, .iushr, 1), (39, .iadd, 1), (40, .istore_n 0, 1), (41, .iload_n 0, 1), (42, .iload_n 0, 1), (43, .bipush 16, 2), (45, .iushr, 1), (46, .iadd, 1), (47, .istore_n 0, 1), (48, .iload_n 0, 1), (49, .bipush 63, 2), (51, .iand, 1), (52, .ireturn, 1)]
def mJ6_bitCount_0f7a4 : a_Mth := (11, ⟨"java/lang/Integer", "bitCount", "(I)I"⟩, prog_12_method_49_code, 1, (Option.some FieldType.int), 0, 0, (4, 7), ilJ6_bitCount_0f7a4)
def ilJ7_fill_53178 : a_IL := [(0, .iconst 0, 1), (1, .istore_n 2, 1), (2, .aload_n 0, 1), (3, .arraylength, 1), (4, .istore_n 3, 1), (5, .iload_n 2, 1), (6, .iload_n 3, 1), (7, .if_icmp .ge 13, 3), (10, .aload_n 0, 1), (11, .iload_n 2, 1), (12, .iload_n 1, 1), (13, .iastore, 1), (14, .iinc 2 1, 3), (17, .goto (-12), 3), (20, .return_, 1)]
def mJ7_fill_53178 : a_Mth := (12, ⟨"java/util/Arrays", "fill", "([II)V"⟩, prog_17_method_103_code, 4, (Option.none : Option FieldType), 0, 0, (1, 38), ilJ7_fill_53178)
def ilL_law : a_IL := [(0, .new 7, 3), (3, .dup, 1), (4, .invokespecial 9, 3), (7, .astore_n 1, 1), (8, .new 10, 3), (11, .dup, 1), (12, .invokespecial 12, 3), (15, .astore_n 2, 1), (16, .iconst 0, 1), (17, .istore_n 3, 1), (18, .iload_n 3, 1), (19, .aload_n 0, 1), (20, .arraylength, 1), (21, .iconst 5, 1), (22, .isub, 1), (23, .if_icmp .gt 1031, 3), (26, .aload_n 0, 1), (27, .iload_n 3, 1), (28, .iaload, 1), (29, .bipush 31, 2), (31, .iand, 1), (32, .tableswitch 1016 0 29 #[136, 199, 212, 225, 248, 281, 304, 337, 380, 403, 436, 469, 492, 515, 538, 561, 594, 617, 650, 693, 736, 749, 762, 785, 818, 851, 894, 947, 970, 993], 136), (168, .aload_n 1, 1), (169, .aload_n 0, 1), (170, .iload_n 3, 1), (171, .iconst 1, 1), (172, .iadd, 1), (173, .iaload, 1), (174, .aload_n 0, 1), (175, .iload_n 3, 1), (176, .iconst 2, 1), (177, .iadd, 1), (178, .iaload, 1), (179, .i2l, 1), (180, .bipush 32, 2), (182, .lshl, 1), (183, .aload_n 0, 1), (184, .iload_n 3, 1), (185, .iconst 3, 1), (186, .iadd, 1), (187, .iaload, 1), (188, .i2l, 1), (189, .ldc2_w 13, 3), (192, .land, 1), (193, .lor, 1), (194, .invokevirtual 15, 3), (197, .aload_n 2, 1), (198, .aload_n 0, 1), (199, .iload_n 3, 1), (200, .iconst 1, 1), (201, .iadd, 1), (202, .iaload, 1), (203, .aload_n 0, 1), (204, .iload_n 3, 1), (205, .iconst 2, 1), (206, .iadd, 1), (207, .iaload, 1), (208, .i2l, 1), (209, .bipush 32, 2), (211, .lshl, 1), (212, .aload_n 0, 1), (213, .iload_n 3, 1), (214, .iconst 3, 1), (215, .iadd, 1), (216, .iaload, 1), (217, .i2l, 1), (218, .ldc2_w 13, 3), (221, .land, 1), (222, .lor, 1), (223, .invokevirtual 19, 3), (226, .if_icmp .eq 822, 3), (229, .iconst 0, 1), (230, .ireturn, 1), (231, .aload_n 1, 1), (232, .invokevirtual 20, 3), (235, .aload_n 2, 1), (236, .invokevirtual 24, 3), (239, .if_icmp .eq 809, 3), (242, .iconst 0, 1), (243, .ireturn, 1), (244, .aload_n 1, 1), (245, .invokevirtual 25, 3), (248, .aload_n 2, 1), (249, .invokevirtual 28, 3), (252, .if_icmp .eq 796, 3), (255, .iconst 0, 1), (256, .ireturn, 1), (257, .aload_n 1, 1), (258, .aload_n 0, 1), (259, .iload_n 3, 1), (260, .iconst 1, 1), (261, .iadd, 1), (262, .iaload, 1), (263, .invokevirtual 29, 3), (266, .aload_n 2, 1), (267, .aload_n 0, 1), (268, .iload_n 3, 1), (269, .iconst 1, 1), (270, .iadd, 1), (271, .iaload, 1), (272, .invokevirtual 33, 3), (275, .if_icmp .eq 773, 3), (278, .iconst 0, 1), (279, .ireturn, 1), (280, .aload_n 1, 1), (281, .aload_n 0, 1), (282, .iload_n 3, 1), (283, .iconst 1, 1), (284, .iadd, 1), (285, .iaload, 1), (286, .aload_n 0, 1), (287, .iload_n 3, 1), (288, .iconst 2, 1), (289, .iadd, 1), (290, .iaload, 1), (291, .invokevirtual 34, 3), (294, .aload_n 2, 1), (295, .aload_n 0, 1), (296, .iload_n 3, 1), (297, .iconst 1, 1), (298, .iadd, 1), (299, .iaload, 1), (300, .aload_n 0, 1), (301, .iload_n 3, 1), (302, .iconst 2, 1), (303, .iadd, 1), (304, .iaload, 1), (305, .invokevirtual 38, 3), (308, .if_icmp .eq 740, 3), (311, .iconst 0, 1), (312, .ireturn, 1), (313, .aload_n 1, 1), (314, .aload_n 0, 1), (315, .iload_n 3, 1), (316, .iconst 1, 1), (317, .iadd, 1), (318, .iaload, 1), (319, .invokevirtual 39, 3), (322, .aload_n 2, 1), (323, .aload_n 0, 1), (324, .iload_n 3, 1), (325, .iconst 1, 1), (326, .iadd, 1), (327, .iaload, 1), (328, .invokevirtual 42, 3), (331, .if_icmp .eq 717, 3), (334, .iconst 0, 1), (335, .ireturn, 1), (336, .aload_n 1, 1), (337, .aload_n 0, 1), (338, .iload_n 3, 1), (339, .iconst 1, 1), (340, .iadd, 1), (341, .iaload, 1), (342, .aload_n 0, 1), (343, .iload_n 3, 1), (344, .iconst 2, 1), (345, .iadd, 1), (346, .iaload, 1), (347, .invokevirtual 43, 3), (350, .aload_n 2, 1), (351, .aload_n 0, 1), (352, .iload_n 3, 1), (353, .iconst 1, 1), (354, .iadd, 1), (355, .iaload, 1), (356, .aload_n 0, 1), (357, .iload_n 3, 1), (358, .iconst 2, 1), (359, .iadd, 1), (360, .iaload, 1), (361, .invokevirtual 46, 3), (364, .if_icmp .eq 684, 3), (367, .iconst 0, 1), (368, .ireturn, 1), (369, .aload_n 1, 1), (370, .aload_n 0, 1), (371, .iload_n 3, 1), (372, .iconst 1, 1), (373, .iadd, 1), (374, .iaload, 1), (375, .aload_n 0, 1), (376, .iload_n 3, 1), (377, .iconst 2, 1), (378, .iadd, 1), (379, .iaload, 1), (380, .aload_n 0, 1), (381, .iload_n 3, 1), (382, .iconst 3, 1), (383, .iadd, 1), (384, .iaload, 1), (385, .invokevirtual 47, 3), (388, .aload_n 2, 1), (389, .aload_n 0, 1), (390, .iload_n 3, 1), (391, .iconst 1, 1), (392, .iadd, 1), (393, .iaload, 1), (394, .aload_n 0, 1), (395, .iload_n 3, 1), (396, .iconst 2, 1), (397, .iadd, 1), (398, .iaload, 1), (399, .aload_n 0, 1), (400, .iload_n 3, 1), (401, .iconst 3, 1), (402, .iadd, 1), (403, .iaload, 1), (404, .invokevirtual 51, 3), (407, .if_icmp .eq 641, 3), (410, .iconst 0, 1), (411, .ireturn, 1), (412, .aload_n 1, 1), (413, .aload_n 0, 1), (414, .iload_n 3, 1), (415, .iconst 1, 1), (416, .iadd, 1), (417, .iaload, 1), (418, .invokevirtual 52, 3), (421, .aload_n 2, 1), (422, .aload_n 0, 1), (423, .iload_n 3, 1), (424, .iconst 1, 1), (425, .iadd, 1), (426, .iaload, 1), (427, .invokevirtual 55, 3), (430, .if_icmp .eq 618, 3), (433, .iconst 0, 1), (434, .ireturn, 1), (435, .aload_n 1, 1), (436, .aload_n 0, 1), (437, .iload_n 3, 1), (438, .iconst 1, 1), (439, .iadd, 1), (440, .iaload, 1), (441, .aload_n 0, 1), (442, .iload_n 3, 1), (443, .iconst 2, 1), (444, .iadd, 1), (445, .iaload, 1), (446, .invokevirtual 56, 3), (449, .aload_n 2, 1), (450, .aload_n 0, 1), (451, .iload_n 3, 1), (452, .iconst 1, 1), (453, .iadd, 1), (454, .iaload, 1), (455, .aload_n 0, 1), (456, .iload_n 3, 1), (457, .iconst 2, 1), (458, .iadd, 1), (459, .iaload, 1), (460, .invokevirtual 59, 3), (463, .if_icmp .eq 585, 3), (466, .iconst 0, 1), (467, .ireturn, 1), (468, .aload_n 1, 1), (469, .aload_n 0, 1), (470, .iload_n 3, 1), (471, .iconst 1, 1), (472, .iadd, 1), (473, .iaload, 1), (474, .aload_n 0, 1), (475, .iload_n 3, 1), (476, .iconst 2, 1), (477, .iadd, 1), (478, .iaload, 1), (479, .invokevirtual 60, 3), (482, .aload_n 2, 1), (483, .aload_n 0, 1), (484, .iload_n 3, 1), (485, .iconst 1, 1), (486, .iadd, 1), (487, .iaload, 1), (488, .aload_n 0, 1), (489, .iload_n 3, 1), (490, .iconst 2, 1), (491, .iadd, 1), (492, .iaload, 1), (493, .invokevirtual 63, 3), (496, .if_icmp .eq 552, 3), (499, .iconst 0, 1), (500, .ireturn, 1), (501, .aload_n 1, 1), (502, .aload_n 0, 1), (503, .iload_n 3, 1), (504, .iconst 1, 1), (505, .iadd, 1), (506, .iaload, 1), (507, .invokevirtual 64, 3), (510, .aload_n 2, 1), (511, .aload_n 0, 1), (512, .iload_n 3, 1), (513, .iconst 1, 1), (514, .iadd, 1), (515, .iaload, 1), (516, .invokevirtual 67, 3), (519, .if_icmp .eq 529, 3), (522, .iconst 0, 1), (523, .ireturn, 1), (524, .aload_n 1, 1), (525, .aload_n 0, 1), (526, .iload_n 3, 1), (527, .iconst 1, 1), (528, .iadd, 1), (529, .iaload, 1), (530, .invokevirtual 68, 3), (533, .aload_n 2, 1), (534, .aload_n 0, 1), (535, .iload_n 3, 1), (536, .iconst 1, 1), (537, .iadd, 1), (538, .iaload, 1), (539, .invokevirtual 71, 3), (542, .if_icmp .eq 506, 3), (545, .iconst 0, 1), (546, .ireturn, 1), (547, .aload_n 1, 1), (548, .aload_n 0, 1), (549, .iload_n 3, 1), (550, .iconst 1, 1), (551, .iadd, 1), (552, .iaload, 1), (553, .invokevirtual 72, 3), (556, .aload_n 2, 1), (557, .aload_n 0, 1), (558, .iload_n 3, 1), (559, .iconst 1, 1), (560, .iadd, 1), (561, .iaload, 1), (562, .invokevirtual 75, 3), (565, .if_icmp .eq 483, 3), (568, .iconst 0, 1), (569, .ireturn, 1), (570, .aload_n 1, 1), (571, .aload_n 0, 1), (572, .iload_n 3, 1), (573, .iconst 1, 1), (574, .iadd, 1), (575, .iaload, 1), (576, .invokevirtual 76, 3), (579, .aload_n 2, 1), (580, .aload_n 0, 1), (581, .iload_n 3, 1), (582, .iconst 1, 1), (583, .iadd, 1), (584, .iaload, 1), (585, .invokevirtual 79, 3), (588, .if_icmp .eq 460, 3), (591, .iconst 0, 1), (592, .ireturn, 1), (593, .aload_n 1, 1), (594, .aload_n 0, 1), (595, .iload_n 3, 1), (596, .iconst 1, 1), (597, .iadd, 1), (598, .iaload, 1), (599, .aload_n 0, 1), (600, .iload_n 3, 1), (601, .iconst 2, 1), (602, .iadd, 1), (603, .iaload, 1), (604, .invokevirtual 80, 3), (607, .aload_n 2, 1), (608, .aload_n 0, 1), (609, .iload_n 3, 1), (610, .iconst 1, 1), (611, .iadd, 1), (612, .iaload, 1), (613, .aload_n 0, 1), (614, .iload_n 3, 1), (615, .iconst 2, 1), (616, .iadd, 1), (617, .iaload, 1), (618, .invokevirtual 83, 3), (621, .if_icmp .eq 427, 3), (624, .iconst 0, 1), (625, .ireturn, 1), (626, .aload_n 1, 1), (627, .aload_n 0, 1), (628, .iload_n 3, 1), (629, .iconst 1, 1), (630, .iadd, 1), (631, .iaload, 1), (632, .invokevirtual 84, 3), (635, .aload_n 2, 1), (636, .aload_n 0, 1), (637, .iload_n 3, 1), (638, .iconst 1, 1), (639, .iadd, 1), (640, .iaload, 1), (641, .invokevirtual 87, 3), (644, .if_icmp .eq 404, 3), (647, .iconst 0, 1), (648, .ireturn, 1), (649, .aload_n 1, 1), (650, .aload_n 0, 1), (651, .iload_n 3, 1), (652, .iconst 1, 1), (653, .iadd, 1), (654, .iaload, 1), (655, .aload_n 0, 1), (656, .iload_n 3, 1), (657, .iconst 2, 1), (658, .iadd, 1), (659, .iaload, 1), (660, .invokevirtual 88, 3), (663, .aload_n 2, 1), (664, .aload_n 0, 1), (665, .iload_n 3, 1), (666, .iconst 1, 1), (667, .iadd, 1), (668, .iaload, 1), (669, .aload_n 0, 1), (670, .iload_n 3, 1), (671, .iconst 2, 1), (672, .iadd, 1), (673, .iaload, 1), (674, .invokevirtual 91, 3), (677, .if_icmp .eq 371, 3), (680, .iconst 0, 1), (681, .ireturn, 1), (682, .aload_n 1, 1), (683, .aload_n 0, 1), (684, .iload_n 3, 1), (685, .iconst 1, 1), (686, .iadd, 1), (687, .iaload, 1), (688, .aload_n 0, 1), (689, .iload_n 3, 1), (690, .iconst 2, 1), (691, .iadd, 1), (692, .iaload, 1), (693, .aload_n 0, 1), (694, .iload_n 3, 1), (695, .iconst 3, 1), (696, .iadd, 1), (697, .iaload, 1), (698, .invokevirtual 92, 3), (701, .aload_n 2, 1), (702, .aload_n 0, 1), (703, .iload_n 3, 1), (704, .iconst 1, 1), (705, .iadd, 1), (706, .iaload, 1), (707, .aload_n 0, 1), (708, .iload_n 3, 1), (709, .iconst 2, 1), (710, .iadd, 1), (711, .iaload, 1), (712, .aload_n 0, 1), (713, .iload_n 3, 1), (714, .iconst 3, 1), (715, .iadd, 1), (716, .iaload, 1), (717, .invokevirtual 95, 3), (720, .if_icmp .eq 328, 3), (723, .iconst 0, 1), (724, .ireturn, 1), (725, .aload_n 1, 1), (726, .aload_n 0, 1), (727, .iload_n 3, 1), (728, .iconst 1, 1), (729, .iadd, 1), (730, .iaload, 1), (731, .aload_n 0, 1), (732, .iload_n 3, 1), (733, .iconst 2, 1), (734, .iadd, 1), (735, .iaload, 1), (736, .aload_n 0, 1), (737, .iload_n 3, 1), (738, .iconst 3, 1), (739, .iadd, 1), (740, .iaload, 1), (741, .invokevirtual 96, 3), (744, .aload_n 2, 1), (745, .aload_n 0, 1), (746, .iload_n 3, 1), (747, .iconst 1, 1), (748, .iadd, 1), (749, .iaload, 1), (750, .aload_n 0, 1), (751, .iload_n 3, 1), (752, .iconst 2, 1), (753, .iadd, 1), (754, .iaload, 1), (755, .aload_n 0, 1), (756, .iload_n 3, 1), (757, .iconst 3, 1), (758, .iadd, 1), (759, .iaload, 1), (760, .invokevirtual 99, 3), (763, .if_icmp .eq 285, 3), (766, .iconst 0, 1), (767, .ireturn, 1), (768, .aload_n 1, 1), (769, .invokevirtual 100, 3), (772, .aload_n 2, 1), (773, .invokevirtual 103, 3), (776, .if_icmp .eq 272, 3), (779, .iconst 0, 1), (780, .ireturn, 1), (781, .aload_n 1, 1), (782, .invokevirtual 104, 3), (785, .aload_n 2, 1), (786, .invokevirtual 107, 3), (789, .if_icmp .eq 259, 3), (792, .iconst 0, 1), (793, .ireturn, 1), (794, .aload_n 1, 1), (795, .aload_n 0, 1), (796, .iload_n 3, 1), (797, .iconst 1, 1), (798, .iadd, 1), (799, .iaload, 1), (800, .invokevirtual 108, 3), (803, .aload_n 2, 1), (804, .aload_n 0, 1), (805, .iload_n 3, 1), (806, .iconst 1, 1), (807, .iadd, 1), (808, .iaload, 1), (809, .invokevirtual 111, 3), (812, .if_icmp .eq 236, 3), (815, .iconst 0, 1), (816, .ireturn, 1), (817, .aload_n 1, 1), (818, .aload_n 0, 1), (819, .iload_n 3, 1), (820, .iconst 1, 1), (821, .iadd, 1), (822, .iaload, 1), (823, .aload_n 0, 1), (824, .iload_n 3, 1), (825, .iconst 2, 1), (826, .iadd, 1), (827, .iaload, 1), (828, .invokevirtual 112, 3), (831, .aload_n 2, 1), (832, .aload_n 0, 1), (833, .iload_n 3, 1), (834, .iconst 1, 1), (835, .iadd, 1), (836, .iaload, 1), (837, .aload_n 0, 1), (838, .iload_n 3, 1), (839, .iconst 2, 1), (840, .iadd, 1), (841, .iaload, 1), (842, .invokevirtual 115, 3), (845, .if_icmp .eq 203, 3), (848, .iconst 0, 1), (849, .ireturn, 1), (850, .aload_n 1, 1), (851, .aload_n 0, 1), (852, .iload_n 3, 1), (853, .iconst 1, 1), (854, .iadd, 1), (855, .iaload, 1), (856, .aload_n 0, 1), (857, .iload_n 3, 1), (858, .iconst 2, 1), (859, .iadd, 1), (860, .iaload, 1), (861, .invokevirtual 116, 3), (864, .aload_n 2, 1), (865, .aload_n 0, 1), (866, .iload_n 3, 1), (867, .iconst 1, 1), (868, .iadd, 1), (869, .iaload, 1), (870, .aload_n 0, 1), (871, .iload_n 3, 1), (872, .iconst 2, 1), (873, .iadd, 1), (874, .iaload, 1), (875, .invokevirtual 119, 3), (878, .if_icmp .eq 170, 3), (881, .iconst 0, 1), (882, .ireturn, 1), (883, .aload_n 1, 1), (884, .aload_n 0, 1), (885, .iload_n 3, 1), (886, .iconst 1, 1), (887, .iadd, 1), (888, .iaload, 1), (889, .aload_n 0, 1), (890, .iload_n 3, 1), (891, .iconst 2, 1), (892, .iadd, 1), (893, .iaload, 1), (894, .aload_n 0, 1), (895, .iload_n 3, 1), (896, .iconst 3, 1), (897, .iadd, 1), (898, .iaload, 1), (899, .invokevirtual 120, 3), (902, .aload_n 2, 1), (903, .aload_n 0, 1), (904, .iload_n 3, 1), (905, .iconst 1, 1), (906, .iadd, 1), (907, .iaload, 1), (908, .aload_n 0, 1), (909, .iload_n 3, 1), (910, .iconst 2, 1), (911, .iadd, 1), (912, .iaload, 1), (913, .aload_n 0, 1), (914, .iload_n 3, 1), (915, .iconst 3, 1), (916, .iadd, 1), (917, .iaload, 1), (918, .invokevirtual 123, 3), (921, .if_icmp .eq 127, 3), (924, .iconst 0, 1), (925, .ireturn, 1), (926, .aload_n 1, 1), (927, .aload_n 0, 1), (928, .iload_n 3, 1), (929, .iconst 1, 1), (930, .iadd, 1), (931, .iaload, 1), (932, .aload_n 0, 1), (933, .iload_n 3, 1), (934, .iconst 2, 1), (935, .iadd, 1), (936, .iaload, 1), (937, .aload_n 0, 1), (938, .iload_n 3, 1), (939, .iconst 3, 1), (940, .iadd, 1), (941, .iaload, 1), (942, .aload_n 0, 1), (943, .iload_n 3, 1), (944, .iconst 4, 1), (945, .iadd, 1), (946, .iaload, 1), (947, .invokevirtual 124, 3), (950, .aload_n 2, 1), (951, .aload_n 0, 1), (952, .iload_n 3, 1), (953, .iconst 1, 1), (954, .iadd, 1), (955, .iaload, 1), (956, .aload_n 0, 1), (957, .iload_n 3, 1), (958, .iconst 2, 1), (959, .iadd, 1), (960, .iaload, 1), (961, .aload_n 0, 1), (962, .iload_n 3, 1), (963, .iconst 3, 1), (964, .iadd, 1), (965, .iaload, 1), (966, .aload_n 0, 1), (967, .iload_n 3, 1), (968, .iconst 4, 1), (969, .iadd, 1), (970, .iaload, 1), (971, .invokevirtual 128, 3), (974, .if_icmp .eq 74, 3), (977, .iconst 0, 1), (978, .ireturn, 1), (979, .aload_n 1, 1), (980, .aload_n 0, 1), (981, .iload_n 3, 1), (982, .iconst 1, 1), (983, .iadd, 1), (984, .iaload, 1), (985, .invokevirtual 129, 3), (988, .aload_n 2, 1), (989, .aload_n 0, 1), (990, .iload_n 3, 1), (991, .iconst 1, 1), (992, .iadd, 1), (993, .iaload, 1), (994, .invokevirtual 132, 3), (997, .if_icmp .eq 51, 3), (1000, .iconst 0, 1), (1001, .ireturn, 1), (1002, .aload_n 1, 1), (1003, .aload_n 0, 1), (1004, .iload_n 3, 1), (1005, .iconst 1, 1), (1006, .iadd, 1), (1007, .iaload, 1), (1008, .invokevirtual 133, 3), (1011, .aload_n 2, 1), (1012, .aload_n 0, 1), (1013, .iload_n 3, 1), (1014, .iconst 1, 1), (1015, .iadd, 1), (1016, .iaload, 1), (1017, .invokevirtual 136, 3), (1020, .if_icmp .eq 28, 3), (1023, .iconst 0, 1), (1024, .ireturn, 1), (1025, .aload_n 1, 1), (1026, .aload_n 0, 1), (1027, .iload_n 3, 1), (1028, .iconst 1, 1), (1029, .iadd, 1), (1030, .iaload, 1), (1031, .invokevirtual 137, 3), (1034, .aload_n 2, 1), (1035, .aload_n 0, 1), (1036, .iload_n 3, 1), (1037, .iconst 1, 1), (1038, .iadd, 1), (1039, .iaload, 1), (1040, .invokevirtual 140, 3), (1043, .if_icmp .eq 5, 3), (1046, .iconst 0, 1), (1047, .ireturn, 1), (1048, .iinc 3 5, 3), (1051, .goto (-1033), 3), (1054, .iconst 1, 1), (1055, .ireturn, 1)]
def mL_law : a_Mth := (10, ⟨"BillWallLaw", "law", "([I)Z"⟩, code, 4, (Option.some FieldType.boolean : Option FieldType), 12, 440, (0, 0), ilL_law)
abbrev a_cn (M : a_Mth) : Nat := M.1
abbrev a_y (M : a_Mth) : MethodName := M.2.1
abbrev a_b (M : a_Mth) : ByteArray := M.2.2.1
abbrev a_mL (M : a_Mth) : Nat := M.2.2.2.1
abbrev a_rt (M : a_Mth) : Option FieldType := M.2.2.2.2.1
abbrev a_fr (M : a_Mth) : Nat := M.2.2.2.2.2.1
abbrev a_lo (M : a_Mth) : Nat := M.2.2.2.2.2.2.1
abbrev a_pl (M : a_Mth) : Nat × Nat := M.2.2.2.2.2.2.2.1
abbrev a_il (M : a_Mth) : a_IL := M.2.2.2.2.2.2.2.2
def a_Ml0 : List a_Mth := [mX0_init, mX0_takeAllAway, mX0_copyFrom, mX0_has, mX0_isFull, mX0_isOn, mX0_ownerOf, mX0_allCells, mX0_right, mX0_bottom, mX0_topAt, mX0_hang, mX0_takeOff, mX0_undoHang, mX0_tearTop, mX0_loosen, mX0_drawOfHundred, mX0_tornCells, mX0_hangingOf, mX0_coversOf]
def a_Ml1 : List a_Mth := [mX0_toFree, mX0_laterThan, mX1_init, mX2_init, mX2_toRead, mX2_lookUnder, mX2_isLiftable, mX2_seenWithout, mX3_init, mX3_forget, mX3_has, mX3_add, mX3_countOrders, mX3_firstOrderAt, mX3_liesOver, mX3_hasOrder, mX3_leastThatCanStand, mX3_relate, mX4_init, mX4_findOne]
def a_Ml2 : List a_Mth := [mX4_findTwo, mX4_findSecond, mX4_isBetter, mX4_compete, mX4_takeTurn, mX4_worthAtLast, mX5_init, mX5_untell, mX5_copyFrom, mX5_addStrip, mX5_addKind, mX5_hasKind, mX5_hasCell, mX5_holds, mX5_isBarred, mX5_canRead, mX5_passersOf, mX6_init, mX6_append, mX6_readInto]
def a_Ml3 : List a_Mth := [mX6_isFaultless, mX6_fail, mX6_readClause, mX6_isSizeTooLate, mX6_isTold, mX6_readNumbers, mX6_readStrip, mX6_readPassers, mX6_readKind, mX6_readNumber, mX6_readEnd, mX6_skipBlanks, mX6_readWord, mX6_spells, mX6_nameOf, mX6_isLetter, mX6_isFigure, mX7_init, mX7_lookAt, mX7_worthOf]
def a_Ml4 : List a_Mth := [mX7_worthOfOwner, mX7_weigh, mX7_hide, mX7_weighLoss, mX8_init, mX8_feed, mX8_wall, mX8_fault, mX8_told, mX8_kind, mX8_passes, mX8_bare, mX8_paste, mX8_days, mX8_above, mX8_bill, mX8_over, mX8_free, mX8_reveal, mX8_peel]
def a_Ml5 : List a_Mth := [mX8_tear, mX8_rain, mX8_owner, mX8_show, mX8_look, mX8_burn, mX8_orders, mX8_order, mX8_surely, mX8_best, mX8_two, mX8_rivals, mX8_seed, mX8_keep, mX8_goBack, mX8_imageOf, mX8_isIn, mX8_cellAt, mX9_init, mX9_in]
def a_Ml6 : List a_Mth := [mX9_one, mX9_has, mX9_ones, mX9_untold, mX9_feed, mX9_here, mX9_want, mX9_takeWord, mX9_isWord, mX9_takeNumber, mX9_once, mX9_takeSize, mX9_takeBare, mX9_takePass, mX9_takeKind, mX9_takeClause, mX9_wall, mX9_fault, mX9_told, mX9_isKind]
def a_Ml7 : List a_Mth := [mX9_kind, mX9_passes, mX9_isCell, mX9_bare, mX9_copy, mX9_ownerOf, mX9_sizeOf, mX9_reaches, mX9_isTorn, mX9_lies, mX9_aboveAt, mX9_see, mX9_isRead, mX9_worthOf, mX9_lay, mX9_isWithin, mX9_isClear, mX9_paste, mX9_days, mX9_above]
def a_Ml8 : List a_Mth := [mX9_isBill, mX9_tornMany, mX9_bill, mX9_overOf, mX9_over, mX9_freeOf, mX9_free, mX9_isWhole, mX9_isReadWithout, mX9_reveal, mX9_peel, mX9_tearAt, mX9_tear, mX9_draw, mX9_rain, mX9_onMany, mX9_owner, mX9_show, mX9_look, mX9_burn]
def a_Ml9 : List a_Mth := [mX9_hasCell, mX9_findBelow, mX9_ordersOf, mX9_orders, mX9_order, mX9_surely, mX9_undo, mX9_isPlace, mX9_findBest, mX9_best, mX9_two, mX9_takeTurn, mX9_rivals, mX9_seed, mX9_keep, mX9_goBack, mJ6_numberOfLeadingZeros_0f7a4, mJ6_bitCount_0f7a4, mJ7_fill_53178]
def a_M (k : Nat) : Option a_Mth := match k / 20 with
  | 0 => a_Ml0[k % 20]?
  | 1 => a_Ml1[k % 20]?
  | 2 => a_Ml2[k % 20]?
  | 3 => a_Ml3[k % 20]?
  | 4 => a_Ml4[k % 20]?
  | 5 => a_Ml5[k % 20]?
  | 6 => a_Ml6[k % 20]?
  | 7 => a_Ml7[k % 20]?
  | 8 => a_Ml8[k % 20]?
  | 9 => a_Ml9[k % 20]?
  | _ => none
def a_fldT0 : List (Nat × Nat × Nat × Nat × (Nat × Nat) × String) := [(9, 0, 4, 0, (1, 169), ""), (15, 0, 5, 0, (1, 171), ""), (18, 0, 6, 0, (1, 174), ""), (21, 0, 7, 0, (1, 177), ""), (24, 0, 8, 0, (1, 180), ""), (27, 0, 10, 0, (1, 183), ""), (30, 0, 11, 0, (1, 185), ""), (33, 0, 0, 0, (1, 158), ""), (37, 0, 1, 0, (1, 159), ""), (41, 0, 2, 0, (1, 163), ""), (44, 0, 9, 0, (1, 182), ""), (53, 0, 3, 0, (1, 167), ""), (66, 5, 9, 1, (1, 77), "BillWall"), (71, 5, 10, 1, (1, 84), "BillWall"), (74, 5, 11, 1, (1, 90), "BillWall"), (103, 5, 1, 1, (1, 50), "BillWall"), (105, 5, 0, 1, (1, 44), "BillWall")]
def a_fldT1 : List (Nat × Nat × Nat × Nat × (Nat × Nat) × String) := [(12, 1, 0, 0, (1, 219), "")]
def a_fldT2 : List (Nat × Nat × Nat × Nat × (Nat × Nat) × String) := [(9, 2, 1, 0, (2, 28), ""), (15, 2, 2, 0, (2, 29), ""), (18, 2, 0, 0, (2, 27), ""), (53, 0, 1, 1, (1, 160), "BillWall"), (60, 2, 3, 0, (2, 30), ""), (63, 0, 6, 1, (1, 175), "BillWall"), (69, 0, 5, 1, (1, 172), "BillWall"), (75, 0, 10, 1, (1, 184), "BillWall")]
def a_fldT3 : List (Nat × Nat × Nat × Nat × (Nat × Nat) × String) := [(9, 3, 2, 0, (2, 105), ""), (15, 3, 3, 0, (2, 106), ""), (18, 3, 4, 0, (2, 108), ""), (21, 3, 5, 0, (2, 109), ""), (24, 3, 6, 0, (2, 110), ""), (27, 3, 0, 0, (2, 102), ""), (34, 3, 1, 0, (2, 103), ""), (44, 5, 11, 1, (1, 87), "BillWall"), (49, 5, 10, 1, (1, 81), "BillWall")]
def a_fldT4 : List (Nat × Nat × Nat × Nat × (Nat × Nat) × String) := [(7, 4, 0, 0, (2, 50), ""), (18, 4, 1, 0, (2, 51), ""), (25, 4, 2, 0, (2, 52), ""), (29, 4, 3, 0, (2, 53), ""), (32, 4, 4, 0, (2, 54), ""), (40, 5, 1, 1, (1, 46), "BillWall"), (46, 5, 11, 1, (1, 86), "BillWall"), (50, 5, 0, 1, (1, 41), "BillWall"), (53, 5, 10, 1, (1, 80), "BillWall"), (64, 7, 6, 1, (2, 0), "BillWall"), (71, 4, 5, 0, (2, 56), ""), (74, 4, 6, 0, (2, 58), ""), (95, 4, 9, 0, (2, 64), ""), (96, 4, 7, 0, (2, 60), ""), (99, 4, 8, 0, (2, 62), ""), (102, 4, 10, 0, (2, 66), ""), (109, 0, 2, 1, (1, 165), "BillWall"), (120, 5, 9, 1, (1, 78), "BillWall")]
def a_fldT5 : List (Nat × Nat × Nat × Nat × (Nat × Nat) × String) := [(9, 5, 7, 0, (1, 68), ""), (15, 5, 8, 0, (1, 72), ""), (18, 5, 9, 0, (1, 74), ""), (21, 5, 10, 0, (1, 79), ""), (24, 5, 11, 0, (1, 85), ""), (30, 5, 0, 0, (1, 39), ""), (34, 5, 1, 0, (1, 45), ""), (37, 5, 2, 0, (1, 51), ""), (40, 5, 3, 0, (1, 55), ""), (43, 5, 4, 0, (1, 59), ""), (46, 5, 5, 0, (1, 62), ""), (49, 5, 6, 0, (1, 65), "")]
def a_fldT6 : List (Nat × Nat × Nat × Nat × (Nat × Nat) × String) := [(9, 6, 0, 0, (1, 123), ""), (15, 6, 5, 0, (1, 130), ""), (19, 6, 1, 0, (1, 124), ""), (24, 6, 2, 0, (1, 126), ""), (27, 6, 4, 0, (1, 128), ""), (30, 6, 6, 0, (1, 132), ""), (33, 6, 7, 0, (1, 133), ""), (78, 5, 5, 1, (1, 64), "BillWall"), (81, 5, 6, 1, (1, 67), "BillWall"), (88, 5, 0, 1, (1, 43), "BillWall"), (91, 5, 1, 1, (1, 49), "BillWall"), (94, 5, 2, 1, (1, 54), "BillWall"), (97, 5, 3, 1, (1, 58), "BillWall"), (100, 5, 4, 1, (1, 61), "BillWall"), (116, 6, 3, 0, (1, 127), ""), (119, 5, 7, 1, (1, 71), "BillWall")]
def a_fldT7 : List (Nat × Nat × Nat × Nat × (Nat × Nat) × String) := [(9, 7, 1, 0, (1, 234), ""), (15, 7, 2, 0, (1, 235), ""), (18, 7, 3, 0, (1, 237), ""), (21, 7, 4, 0, (1, 238), ""), (24, 7, 5, 0, (1, 239), ""), (27, 7, 0, 0, (1, 233), ""), (37, 5, 1, 1, (1, 47), "BillWall"), (43, 5, 0, 1, (1, 40), "BillWall"), (56, 5, 7, 1, (1, 69), "BillWall"), (64, 0, 1, 1, (1, 161), "BillWall"), (78, 7, 7, 0, (2, 2), ""), (84, 7, 6, 0, (2, 1), ""), (90, 5, 9, 1, (1, 75), "BillWall"), (97, 5, 11, 1, (1, 88), "BillWall"), (100, 5, 10, 1, (1, 82), "BillWall"), (103, 0, 2, 1, (1, 166), "BillWall"), (106, 0, 7, 1, (1, 178), "BillWall"), (109, 5, 2, 1, (1, 53), "BillWall"), (112, 5, 3, 1, (1, 57), "BillWall")]
def a_fldT8 : List (Nat × Nat × Nat × Nat × (Nat × Nat) × String) := [(10, 8, 0, 0, (2, 126), ""), (16, 8, 1, 0, (2, 127), ""), (22, 8, 2, 0, (2, 128), ""), (31, 8, 3, 0, (2, 129), ""), (38, 8, 4, 0, (2, 130), ""), (42, 8, 5, 0, (2, 131), ""), (48, 8, 6, 0, (2, 132), ""), (55, 8, 7, 0, (2, 133), ""), (62, 8, 8, 0, (2, 134), ""), (69, 8, 9, 0, (2, 135), ""), (78, 6, 1, 1, (1, 125), "BillWall"), (87, 6, 4, 1, (1, 129), "BillWall"), (99, 1, 1, 1, (1, 221), "BillWall"), (103, 5, 6, 1, (1, 66), "BillWall"), (106, 6, 5, 1, (1, 131), "BillWall"), (109, 5, 0, 1, (1, 42), "BillWall"), (112, 5, 1, 1, (1, 48), "BillWall"), (115, 5, 2, 1, (1, 52), "BillWall"), (118, 5, 3, 1, (1, 56), "BillWall"), (121, 5, 4, 1, (1, 60), "BillWall"), (124, 5, 5, 1, (1, 63), "BillWall"), (127, 0, 1, 1, (1, 162), "BillWall"), (130, 0, 2, 1, (1, 164), "BillWall"), (133, 3, 1, 1, (2, 104), "BillWall"), (139, 5, 9, 1, (1, 76), "BillWall"), (143, 5, 10, 1, (1, 83), "BillWall"), (146, 5, 11, 1, (1, 89), "BillWall"), (153, 5, 7, 1, (1, 70), "BillWall"), (156, 5, 8, 1, (1, 73), "BillWall"), (182, 0, 8, 1, (1, 181), "BillWall"), (185, 7, 7, 1, (2, 3), "BillWall"), (203, 0, 4, 1, (1, 170), "BillWall"), (205, 0, 5, 1, (1, 173), "BillWall"), (207, 0, 6, 1, (1, 176), "BillWall"), (209, 0, 7, 1, (1, 179), "BillWall"), (212, 7, 2, 1, (1, 236), "BillWall"), (264, 3, 3, 1, (2, 107), "BillWall"), (281, 4, 4, 1, (2, 55), "BillWall"), (284, 4, 5, 1, (2, 57), "BillWall"), (287, 4, 6, 1, (2, 59), "BillWall"), (290, 4, 9, 1, (2, 65), "BillWall"), (297, 4, 7, 1, (2, 61), "BillWall"), (300, 4, 8, 1, (2, 63), "BillWall"), (309, 4, 10, 1, (2, 67), "BillWall"), (312, 0, 3, 1, (1, 168), "BillWall"), (319, 1, 0, 1, (1, 220), "BillWall")]
def a_fldT9 : List (Nat × Nat × Nat × Nat × (Nat × Nat) × String) := [(7, 9, 0, 0, (4, 228), ""), (13, 9, 1, 0, (4, 229), ""), (17, 9, 2, 0, (4, 230), ""), (20, 9, 3, 0, (4, 231), ""), (23, 9, 4, 0, (4, 232), ""), (26, 9, 6, 0, (4, 234), ""), (29, 9, 7, 0, (4, 235), ""), (32, 9, 8, 0, (4, 236), ""), (35, 9, 12, 0, (5, 0), ""), (38, 9, 18, 0, (5, 6), ""), (42, 9, 22, 0, (5, 10), ""), (45, 9, 23, 0, (5, 11), ""), (48, 9, 24, 0, (5, 12), ""), (51, 9, 25, 0, (5, 13), ""), (54, 9, 27, 0, (5, 15), ""), (57, 9, 28, 0, (5, 16), ""), (60, 9, 29, 0, (5, 17), ""), (63, 9, 30, 0, (5, 18), ""), (66, 9, 31, 0, (5, 19), ""), (69, 9, 32, 0, (5, 20), ""), (83, 9, 13, 0, (5, 1), ""), (89, 9, 14, 0, (5, 2), ""), (92, 9, 17, 0, (5, 5), ""), (99, 9, 15, 0, (5, 3), ""), (106, 9, 16, 0, (5, 4), ""), (118, 9, 19, 0, (5, 7), ""), (125, 9, 21, 0, (5, 9), ""), (136, 9, 10, 0, (4, 238), ""), (139, 9, 20, 0, (5, 8), ""), (142, 9, 11, 0, (4, 239), ""), (168, 9, 5, 0, (4, 233), ""), (171, 9, 9, 0, (4, 237), ""), (177, 9, 26, 0, (5, 14), ""), (289, 9, 33, 0, (5, 21), ""), (298, 9, 34, 0, (5, 22), ""), (308, 9, 35, 0, (5, 23), "")]
def a_fldT10 : List (Nat × Nat × Nat × Nat × (Nat × Nat) × String) := []
def a_fldT11 : List (Nat × Nat × Nat × Nat × (Nat × Nat) × String) := []
def a_fldT12 : List (Nat × Nat × Nat × Nat × (Nat × Nat) × String) := []
def a_fldT (cn : Nat) : List (Nat × Nat × Nat × Nat × (Nat × Nat) × String) := match cn with
  | 0 => a_fldT0
  | 1 => a_fldT1
  | 2 => a_fldT2
  | 3 => a_fldT3
  | 4 => a_fldT4
  | 5 => a_fldT5
  | 6 => a_fldT6
  | 7 => a_fldT7
  | 8 => a_fldT8
  | 9 => a_fldT9
  | 10 => a_fldT10
  | 11 => a_fldT11
  | 12 => a_fldT12
  | _ => []
def a_calT0 : List (Nat × Nat × Nat × Nat × List (Nat × Nat) × String) := [(3, 6, 0, 0, [(1, 157), (1, 24), (1, 25)], ""), (47, 1, 198, 2, [(3, 79), (1, 37), (1, 3)], ""), (56, 7, 0, 5, [(4, 171), (3, 74), (3, 73), (1, 16)], ""), (62, 2, 116, 2, [(3, 210), (3, 23), (1, 1)], "BillWall"), (77, 1, 196, 1, [(3, 141), (3, 142), (1, 17)], ""), (83, 0, 4, 0, [(3, 178), (3, 126), (3, 127), (1, 5)], ""), (87, 0, 9, 1, [(3, 179), (3, 180), (3, 181), (1, 5)], ""), (90, 0, 8, 1, [(3, 183), (3, 184), (3, 185), (1, 5)], ""), (93, 2, 117, 2, [(3, 187), (3, 135), (1, 1)], "BillWall"), (97, 0, 10, 1, [(4, 45), (3, 138), (3, 139), (1, 5)], ""), (100, 0, 12, 1, [(4, 182), (4, 42), (4, 43), (1, 5)], ""), (107, 0, 16, 0, [(4, 62), (4, 64), (8, 3), (1, 5)], ""), (111, 0, 14, 1, [(4, 70), (4, 51), (4, 52), (1, 5)], ""), (121, 0, 5, 1, [(4, 84), (3, 218), (3, 219), (1, 5)], ""), (125, 0, 6, 1, [(4, 85), (3, 163), (3, 164), (1, 5)], ""), (128, 1, 21, 2, [(3, 229), (3, 230), (1, 5)], ""), (131, 0, 19, 1, [(4, 0), (3, 226), (3, 227), (1, 5)], "")]
def a_calT1 : List (Nat × Nat × Nat × Nat × List (Nat × Nat) × String) := [(1, 6, 0, 0, [(1, 216), (1, 24), (1, 25)], ""), (9, 3, 0, 1, [(1, 218), (1, 155), (1, 5)], "")]
def a_calT2 : List (Nat × Nat × Nat × Nat × List (Nat × Nat) × String) := [(3, 6, 0, 0, [(2, 26), (1, 24), (1, 25)], ""), (22, 0, 25, 2, [(4, 15), (4, 17), (8, 0), (1, 8)], ""), (26, 0, 7, 1, [(4, 25), (3, 167), (3, 168), (1, 5)], ""), (32, 0, 20, 1, [(4, 26), (3, 237), (3, 238), (1, 5)], ""), (35, 1, 197, 1, [(4, 27), (4, 6), (1, 17)], ""), (40, 0, 26, 2, [(4, 28), (4, 30), (8, 1), (1, 8)], ""), (44, 0, 27, 1, [(4, 32), (4, 34), (8, 2), (1, 8)], ""), (47, 0, 55, 2, [(4, 36), (3, 171), (3, 172), (1, 2)], ""), (57, 0, 19, 1, [(4, 19), (3, 226), (3, 227), (1, 5)], ""), (66, 0, 9, 1, [(4, 20), (3, 180), (3, 181), (1, 5)], ""), (72, 0, 8, 1, [(4, 21), (3, 184), (3, 185), (1, 5)], ""), (78, 2, 117, 2, [(4, 22), (3, 135), (1, 1)], "BillWall"), (82, 2, 116, 2, [(4, 23), (3, 23), (1, 1)], "BillWall"), (85, 1, 21, 2, [(4, 24), (3, 230), (1, 5)], "")]
def a_calT3 : List (Nat × Nat × Nat × Nat × List (Nat × Nat) × String) := [(3, 6, 0, 0, [(2, 96), (1, 24), (1, 25)], ""), (31, 0, 29, 0, [(2, 97), (2, 98), (2, 99), (1, 10)], ""), (38, 1, 198, 2, [(2, 101), (1, 37), (1, 3)], ""), (52, 2, 117, 2, [(4, 94), (3, 135), (1, 1)], "BillWall"), (56, 0, 37, 0, [(4, 115), (4, 117), (8, 4), (1, 10)], ""), (60, 0, 35, 0, [(4, 128), (4, 130), (8, 5), (1, 10)], ""), (63, 2, 116, 2, [(4, 119), (3, 23), (1, 1)], "BillWall"), (67, 0, 36, 1, [(4, 132), (4, 134), (8, 6), (1, 10)], "")]
def a_calT4 : List (Nat × Nat × Nat × Nat × List (Nat × Nat) × String) := [(1, 6, 0, 0, [(2, 45), (1, 24), (1, 25)], ""), (15, 3, 0, 1, [(2, 47), (1, 155), (1, 5)], ""), (24, 3, 77, 1, [(2, 49), (1, 230), (1, 7)], ""), (36, 0, 78, 1, [(4, 152), (3, 130), (3, 131), (1, 7)], ""), (56, 0, 54, 3, [(4, 153), (3, 121), (3, 122), (1, 2)], ""), (60, 0, 81, 4, [(4, 154), (3, 146), (3, 147), (1, 7)], ""), (67, 0, 42, 1, [(4, 155), (4, 157), (8, 7), (1, 9)], ""), (77, 0, 2, 1, [(4, 167), (4, 168), (4, 169), (1, 5)], ""), (80, 0, 11, 3, [(4, 172), (3, 175), (3, 176), (1, 5)], ""), (84, 0, 41, 4, [(4, 173), (4, 175), (8, 8), (1, 9)], ""), (88, 0, 13, 0, [(4, 178), (4, 179), (4, 180), (1, 5)], ""), (91, 0, 56, 2, [(4, 177), (3, 154), (3, 155), (1, 2)], ""), (105, 0, 44, 1, [(4, 191), (4, 193), (8, 9), (1, 9)], ""), (112, 0, 4, 0, [(4, 195), (3, 126), (3, 127), (1, 5)], ""), (116, 0, 39, 2, [(4, 196), (4, 149), (4, 150), (1, 9)], ""), (123, 0, 80, 2, [(4, 201), (4, 76), (4, 77), (1, 7)], "")]
def a_calT5 : List (Nat × Nat × Nat × Nat × List (Nat × Nat) × String) := [(3, 6, 0, 0, [(1, 31), (1, 24), (1, 25)], ""), (27, 0, 47, 0, [(1, 32), (1, 33), (1, 34), (1, 2)], ""), (52, 1, 198, 2, [(1, 36), (1, 37), (1, 3)], ""), (58, 7, 0, 5, [(3, 72), (3, 74), (3, 73), (1, 16)], "")]
def a_calT6 : List (Nat × Nat × Nat × Nat × List (Nat × Nat) × String) := [(3, 6, 0, 0, [(1, 122), (1, 24), (1, 25)], ""), (36, 0, 47, 0, [(2, 176), (1, 33), (1, 34), (1, 2)], ""), (41, 0, 71, 0, [(2, 177), (2, 179), (7, 0), (1, 4)], ""), (44, 0, 60, 0, [(2, 181), (2, 183), (7, 1), (1, 4)], ""), (48, 0, 62, 1, [(2, 185), (2, 187), (7, 2), (1, 4)], ""), (52, 0, 72, 0, [(2, 189), (2, 191), (7, 3), (1, 4)], ""), (56, 0, 63, 0, [(3, 18), (3, 20), (7, 5), (1, 4)], ""), (59, 0, 61, 2, [(3, 25), (3, 27), (7, 6), (1, 4)], ""), (63, 0, 64, 2, [(3, 29), (3, 31), (7, 7), (1, 4)], ""), (67, 0, 65, 2, [(3, 33), (3, 35), (7, 8), (1, 4)], ""), (71, 0, 70, 0, [(3, 64), (3, 66), (7, 13), (1, 4)], ""), (74, 2, 116, 2, [(3, 22), (3, 23), (1, 1)], "BillWall"), (84, 0, 69, 2, [(3, 37), (3, 39), (7, 9), (1, 4)], ""), (103, 0, 66, 1, [(3, 44), (3, 46), (7, 10), (1, 4)], ""), (106, 0, 67, 1, [(3, 52), (3, 54), (7, 11), (1, 4)], ""), (109, 0, 68, 1, [(3, 56), (3, 58), (7, 12), (1, 4)], ""), (112, 0, 49, 4, [(3, 48), (3, 49), (3, 50), (1, 2)], ""), (123, 0, 50, 3, [(3, 60), (3, 61), (3, 62), (1, 2)], ""), (127, 1, 76, 1, [(3, 41), (3, 42), (1, 4)], ""), (131, 1, 75, 1, [(2, 193), (2, 194), (1, 4)], ""), (134, 1, 74, 1, [(2, 196), (2, 197), (1, 4)], ""), (138, 0, 73, 2, [(2, 206), (2, 208), (7, 4), (1, 4)], ""), (142, 8, 0, 0, [(2, 210), (2, 211), (2, 212), (1, 12), (2, 213)], ""), (146, 9, 0, 1, [(2, 220), (2, 221), (2, 222), (1, 12), (2, 223)], "")]
def a_calT7 : List (Nat × Nat × Nat × Nat × List (Nat × Nat) × String) := [(3, 6, 0, 0, [(1, 232), (1, 24), (1, 25)], ""), (31, 1, 198, 2, [(3, 133), (1, 37), (1, 3)], ""), (46, 2, 117, 2, [(3, 134), (3, 135), (1, 1)], "BillWall"), (50, 0, 10, 1, [(3, 137), (3, 138), (3, 139), (1, 5)], ""), (57, 0, 7, 1, [(3, 166), (3, 167), (3, 168), (1, 5)], ""), (60, 0, 55, 2, [(3, 170), (3, 171), (3, 172), (1, 2)], ""), (67, 0, 6, 1, [(3, 162), (3, 163), (3, 164), (1, 5)], ""), (70, 0, 79, 2, [(4, 79), (3, 214), (3, 215), (1, 7)], ""), (74, 0, 82, 3, [(3, 149), (3, 151), (7, 14), (1, 7)], ""), (81, 0, 56, 2, [(3, 153), (3, 154), (3, 155), (1, 2)], ""), (87, 2, 116, 2, [(3, 157), (3, 23), (1, 1)], "BillWall"), (93, 0, 83, 3, [(3, 158), (3, 160), (7, 15), (1, 7)], "")]
def a_calT8 : List (Nat × Nat × Nat × Nat × List (Nat × Nat) × String) := [(1, 6, 0, 0, [(1, 23), (1, 24), (1, 25)], ""), (9, 3, 46, 0, [(1, 28), (1, 29), (1, 2)], ""), (21, 4, 57, 0, [(1, 119), (1, 120), (1, 4)], "BillWall"), (28, 3, 0, 1, [(1, 154), (1, 155), (1, 5)], ""), (37, 3, 22, 1, [(1, 213), (1, 214), (1, 6)], ""), (47, 3, 77, 1, [(1, 229), (1, 230), (1, 7)], ""), (54, 3, 23, 1, [(2, 23), (2, 24), (1, 8)], ""), (61, 3, 38, 1, [(2, 42), (2, 43), (1, 9)], ""), (68, 3, 28, 1, [(2, 93), (2, 94), (1, 10)], ""), (74, 0, 58, 2, [(2, 162), (2, 163), (2, 164), (1, 4)], ""), (83, 0, 59, 1, [(2, 172), (2, 173), (2, 174), (1, 4)], ""), (90, 0, 48, 1, [(3, 68), (3, 69), (3, 70), (1, 2)], ""), (93, 0, 1, 0, [(3, 75), (3, 76), (3, 77), (1, 5)], ""), (96, 0, 29, 0, [(3, 80), (2, 98), (2, 99), (1, 10)], ""), (134, 0, 51, 1, [(3, 94), (3, 95), (3, 96), (1, 2)], ""), (149, 0, 52, 2, [(3, 103), (3, 104), (3, 105), (1, 2)], ""), (159, 1, 116, 2, [(3, 111), (3, 23), (1, 1)], ""), (162, 0, 53, 3, [(3, 116), (3, 117), (3, 118), (1, 2)], ""), (166, 0, 54, 3, [(3, 120), (3, 121), (3, 122), (1, 2)], ""), (170, 0, 4, 0, [(3, 125), (3, 126), (3, 127), (1, 5)], ""), (174, 0, 78, 1, [(3, 129), (3, 130), (3, 131), (1, 7)], ""), (178, 0, 81, 4, [(3, 145), (3, 146), (3, 147), (1, 7)], ""), (188, 0, 11, 3, [(3, 174), (3, 175), (3, 176), (1, 5)], ""), (192, 1, 117, 2, [(3, 196), (3, 135), (1, 1)], ""), (196, 0, 10, 1, [(3, 197), (3, 138), (3, 139), (1, 5)], ""), (200, 0, 3, 1, [(3, 202), (3, 203), (3, 204), (1, 5)], ""), (215, 0, 17, 1, [(3, 206), (3, 207), (3, 208), (1, 5)], ""), (218, 0, 7, 1, [(3, 211), (3, 167), (3, 168), (1, 5)], ""), (221, 0, 55, 2, [(3, 212), (3, 171), (3, 172), (1, 2)], ""), (224, 0, 79, 2, [(3, 213), (3, 214), (3, 215), (1, 7)], ""), (228, 0, 5, 1, [(3, 217), (3, 218), (3, 219), (1, 5)], ""), (231, 0, 19, 1, [(3, 225), (3, 226), (3, 227), (1, 5)], ""), (234, 0, 20, 1, [(3, 236), (3, 237), (3, 238), (1, 5)], ""), (237, 1, 197, 1, [(4, 5), (4, 6), (1, 17)], ""), (242, 0, 24, 2, [(4, 11), (4, 12), (4, 13), (1, 8)], ""), (245, 0, 12, 1, [(4, 41), (4, 42), (4, 43), (1, 5)], ""), (248, 0, 14, 1, [(4, 50), (4, 51), (4, 52), (1, 5)], ""), (251, 0, 15, 1, [(4, 58), (4, 59), (4, 60), (1, 5)], ""), (254, 0, 80, 2, [(4, 75), (4, 76), (4, 77), (1, 7)], ""), (257, 0, 18, 1, [(4, 80), (4, 81), (4, 82), (1, 5)], ""), (260, 0, 31, 3, [(4, 90), (4, 91), (4, 92), (1, 10)], ""), (263, 0, 30, 1, [(4, 99), (4, 100), (4, 101), (1, 10)], ""), (267, 0, 32, 0, [(4, 111), (4, 112), (4, 113), (1, 10)], ""), (271, 0, 33, 1, [(4, 124), (4, 125), (4, 126), (1, 10)], ""), (274, 0, 34, 2, [(4, 140), (4, 141), (4, 142), (1, 10)], ""), (277, 0, 39, 2, [(4, 148), (4, 149), (4, 150), (1, 9)], ""), (293, 0, 40, 3, [(4, 163), (4, 164), (4, 165), (1, 9)], ""), (303, 0, 43, 4, [(4, 187), (4, 188), (4, 189), (1, 9)], ""), (306, 0, 45, 1, [(4, 197), (4, 198), (4, 199), (1, 9)], ""), (315, 0, 115, 1, [(4, 210), (4, 212), (8, 10), (1, 1)], ""), (320, 0, 2, 1, [(4, 214), (4, 168), (4, 169), (1, 5)], "")]
def a_calT9 : List (Nat × Nat × Nat × Nat × List (Nat × Nat) × String) := [(1, 6, 0, 0, [(4, 224), (1, 24), (1, 25)], ""), (72, 1, 123, 1, [(4, 225), (4, 226), (1, 11)], ""), (78, 1, 119, 3, [(5, 103), (5, 104), (1, 11)], ""), (95, 0, 125, 0, [(5, 113), (5, 115), (8, 11), (1, 11)], ""), (113, 0, 126, 3, [(5, 135), (5, 137), (9, 0), (1, 11)], ""), (121, 1, 121, 2, [(5, 143), (5, 144), (1, 11)], ""), (129, 0, 130, 2, [(5, 139), (5, 141), (9, 1), (1, 11)], ""), (132, 0, 129, 2, [(5, 146), (5, 148), (9, 2), (1, 11)], ""), (145, 0, 127, 0, [(5, 121), (5, 123), (8, 13), (1, 11)], ""), (148, 0, 128, 6, [(5, 127), (5, 129), (8, 14), (1, 11)], ""), (152, 0, 131, 1, [(5, 131), (5, 133), (8, 15), (1, 11)], ""), (156, 0, 132, 1, [(5, 153), (5, 155), (9, 3), (1, 11)], ""), (159, 0, 133, 0, [(5, 157), (5, 159), (9, 4), (1, 11)], ""), (162, 0, 134, 1, [(5, 161), (5, 163), (9, 5), (1, 11)], ""), (165, 0, 135, 0, [(5, 117), (5, 119), (8, 12), (1, 11)], ""), (174, 0, 179, 0, [(5, 165), (5, 166), (5, 167), (1, 11)], ""), (180, 0, 139, 1, [(5, 181), (5, 183), (9, 6), (1, 11)], ""), (185, 0, 142, 2, [(5, 194), (5, 196), (9, 7), (1, 11)], ""), (188, 1, 120, 1, [(5, 198), (5, 199), (1, 11)], ""), (192, 0, 147, 4, [(5, 213), (5, 215), (9, 10), (1, 11)], ""), (196, 0, 148, 3, [(5, 234), (5, 236), (9, 15), (1, 11)], ""), (200, 0, 149, 3, [(5, 230), (5, 232), (9, 14), (1, 11)], ""), (203, 0, 150, 2, [(5, 226), (5, 228), (9, 13), (1, 11)], ""), (206, 0, 146, 1, [(6, 27), (6, 29), (10, 4), (1, 11)], ""), (209, 0, 151, 1, [(5, 222), (5, 224), (9, 12), (1, 11)], ""), (212, 0, 145, 2, [(5, 238), (6, 0), (10, 0), (1, 11)], ""), (215, 0, 152, 2, [(6, 23), (6, 25), (10, 3), (1, 11)], ""), (218, 0, 155, 3, [(5, 205), (5, 207), (9, 8), (1, 11)], ""), (221, 0, 156, 3, [(5, 209), (5, 211), (9, 9), (1, 11)], ""), (225, 0, 154, 4, [(5, 218), (5, 220), (9, 11), (1, 11)], ""), (231, 0, 160, 1, [(6, 15), (6, 17), (10, 1), (1, 11)], ""), (234, 0, 161, 1, [(6, 19), (6, 21), (10, 2), (1, 11)], ""), (237, 0, 163, 1, [(6, 35), (6, 37), (10, 5), (1, 11)], ""), (240, 0, 165, 1, [(6, 43), (6, 45), (10, 6), (1, 11)], ""), (243, 0, 144, 2, [(6, 62), (6, 64), (10, 9), (1, 11)], ""), (247, 1, 122, 1, [(6, 51), (6, 52), (1, 11)], ""), (250, 0, 167, 1, [(6, 54), (6, 56), (10, 7), (1, 11)], ""), (253, 0, 168, 2, [(6, 58), (6, 60), (10, 8), (1, 11)], ""), (256, 0, 171, 1, [(6, 74), (6, 76), (10, 10), (1, 11)], ""), (268, 0, 173, 1, [(6, 83), (6, 85), (10, 11), (1, 11)], ""), (273, 0, 153, 2, [(6, 96), (6, 98), (10, 12), (1, 11)], ""), (276, 0, 175, 1, [(6, 100), (6, 102), (10, 13), (1, 11)], ""), (279, 0, 180, 2, [(6, 125), (6, 127), (11, 0), (1, 11)], ""), (282, 0, 181, 0, [(6, 121), (6, 123), (10, 15), (1, 11)], ""), (286, 0, 182, 0, [(6, 117), (6, 119), (10, 14), (1, 11)], ""), (292, 0, 187, 2, [(6, 146), (6, 148), (11, 2), (1, 11)], ""), (295, 0, 186, 2, [(6, 150), (6, 152), (11, 3), (1, 11)], ""), (303, 0, 188, 2, [(6, 142), (6, 144), (11, 1), (1, 11)], ""), (313, 0, 191, 1, [(6, 164), (6, 166), (11, 4), (1, 11)], "")]
def a_calT10 : List (Nat × Nat × Nat × Nat × List (Nat × Nat) × String) := [(9, 3, 84, 0, [(1, 20), (1, 21), (1, 1)], ""), (12, 3, 118, 0, [(4, 221), (4, 222), (1, 11)], ""), (15, 0, 85, 2, [(2, 157), (2, 158), (2, 159), (1, 1)], ""), (19, 0, 124, 2, [(5, 98), (5, 99), (5, 100), (1, 11)], ""), (20, 0, 86, 0, [(2, 168), (2, 169), (2, 170), (1, 1)], ""), (24, 0, 136, 0, [(5, 109), (5, 110), (5, 111), (1, 11)], ""), (25, 0, 87, 0, [(3, 82), (3, 83), (3, 84), (1, 1)], ""), (28, 0, 137, 0, [(5, 169), (5, 170), (5, 171), (1, 11)], ""), (29, 0, 88, 1, [(3, 86), (3, 87), (3, 88), (1, 1)], ""), (33, 0, 138, 1, [(5, 173), (5, 174), (5, 175), (1, 11)], ""), (34, 0, 89, 2, [(3, 90), (3, 91), (3, 92), (1, 1)], ""), (38, 0, 140, 2, [(5, 177), (5, 178), (5, 179), (1, 11)], ""), (39, 0, 90, 1, [(3, 99), (3, 100), (3, 101), (1, 1)], ""), (42, 0, 141, 1, [(5, 186), (5, 187), (5, 188), (1, 11)], ""), (43, 0, 91, 2, [(3, 107), (3, 108), (3, 109), (1, 1)], ""), (46, 0, 143, 2, [(5, 190), (5, 191), (5, 192), (1, 11)], ""), (47, 0, 92, 3, [(3, 112), (3, 113), (3, 114), (1, 1)], ""), (51, 0, 157, 3, [(5, 201), (5, 202), (5, 203), (1, 11)], ""), (52, 0, 93, 1, [(3, 188), (3, 189), (3, 190), (1, 1)], ""), (55, 0, 158, 1, [(6, 2), (6, 3), (6, 4), (1, 11)], ""), (56, 0, 94, 2, [(3, 192), (3, 193), (3, 194), (1, 1)], ""), (59, 0, 159, 2, [(6, 7), (6, 8), (6, 9), (1, 11)], ""), (60, 0, 95, 2, [(3, 198), (3, 199), (3, 200), (1, 1)], ""), (63, 0, 162, 2, [(6, 11), (6, 12), (6, 13), (1, 11)], ""), (64, 0, 96, 1, [(3, 221), (3, 222), (3, 223), (1, 1)], ""), (67, 0, 164, 1, [(6, 31), (6, 32), (6, 33), (1, 11)], ""), (68, 0, 97, 1, [(3, 232), (3, 233), (3, 234), (1, 1)], ""), (71, 0, 166, 1, [(6, 39), (6, 40), (6, 41), (1, 11)], ""), (72, 0, 98, 1, [(4, 1), (4, 2), (4, 3), (1, 1)], ""), (75, 0, 169, 1, [(6, 47), (6, 48), (6, 49), (1, 11)], ""), (76, 0, 99, 1, [(4, 37), (4, 38), (4, 39), (1, 1)], ""), (79, 0, 170, 1, [(6, 66), (6, 67), (6, 68), (1, 11)], ""), (80, 0, 100, 2, [(4, 46), (4, 47), (4, 48), (1, 1)], ""), (83, 0, 172, 2, [(6, 70), (6, 71), (6, 72), (1, 11)], ""), (84, 0, 101, 1, [(4, 54), (4, 55), (4, 56), (1, 1)], ""), (87, 0, 174, 1, [(6, 78), (6, 79), (6, 80), (1, 11)], ""), (88, 0, 102, 2, [(4, 71), (4, 72), (4, 73), (1, 1)], ""), (91, 0, 176, 2, [(6, 91), (6, 92), (6, 93), (1, 11)], ""), (92, 0, 103, 3, [(4, 86), (4, 87), (4, 88), (1, 1)], ""), (95, 0, 177, 3, [(6, 104), (6, 105), (6, 106), (1, 11)], ""), (96, 0, 104, 3, [(4, 95), (4, 96), (4, 97), (1, 1)], ""), (99, 0, 178, 3, [(6, 108), (6, 109), (6, 110), (1, 11)], ""), (100, 0, 105, 0, [(4, 103), (4, 104), (4, 105), (1, 1)], ""), (103, 0, 179, 0, [(6, 112), (5, 166), (5, 167), (1, 11)], ""), (104, 0, 106, 0, [(4, 107), (4, 108), (4, 109), (1, 1)], ""), (107, 0, 183, 0, [(6, 113), (6, 114), (6, 115), (1, 11)], ""), (108, 0, 107, 1, [(4, 120), (4, 121), (4, 122), (1, 1)], ""), (111, 0, 184, 1, [(6, 129), (6, 130), (6, 131), (1, 11)], ""), (112, 0, 108, 2, [(4, 136), (4, 137), (4, 138), (1, 1)], ""), (115, 0, 185, 2, [(6, 133), (6, 134), (6, 135), (1, 11)], ""), (116, 0, 109, 2, [(4, 144), (4, 145), (4, 146), (1, 1)], ""), (119, 0, 189, 2, [(6, 137), (6, 138), (6, 139), (1, 11)], ""), (120, 0, 110, 3, [(4, 159), (4, 160), (4, 161), (1, 1)], ""), (123, 0, 190, 3, [(6, 154), (6, 155), (6, 156), (1, 11)], ""), (124, 0, 111, 4, [(4, 183), (4, 184), (4, 185), (1, 1)], ""), (128, 0, 192, 4, [(6, 159), (6, 160), (6, 161), (1, 11)], ""), (129, 0, 112, 1, [(4, 202), (4, 203), (4, 204), (1, 1)], ""), (132, 0, 193, 1, [(6, 168), (6, 169), (6, 170), (1, 11)], ""), (133, 0, 113, 1, [(4, 206), (4, 207), (4, 208), (1, 1)], ""), (136, 0, 194, 1, [(6, 172), (6, 173), (6, 174), (1, 11)], ""), (137, 0, 114, 1, [(4, 215), (4, 216), (4, 217), (1, 1)], ""), (140, 0, 195, 1, [(6, 176), (6, 177), (6, 178), (1, 11)], "")]
def a_calT11 : List (Nat × Nat × Nat × Nat × List (Nat × Nat) × String) := []
def a_calT12 : List (Nat × Nat × Nat × Nat × List (Nat × Nat) × String) := []
def a_calT (cn : Nat) : List (Nat × Nat × Nat × Nat × List (Nat × Nat) × String) := match cn with
  | 0 => a_calT0
  | 1 => a_calT1
  | 2 => a_calT2
  | 3 => a_calT3
  | 4 => a_calT4
  | 5 => a_calT5
  | 6 => a_calT6
  | 7 => a_calT7
  | 8 => a_calT8
  | 9 => a_calT9
  | 10 => a_calT10
  | 11 => a_calT11
  | 12 => a_calT12
  | _ => []
def a_ldcT0 : List (Nat × (Int32 ⊕ (Nat × String)) × (Nat × Nat)) := [(120, .inl (65536), (4, 69))]
def a_ldcT1 : List (Nat × (Int32 ⊕ (Nat × String)) × (Nat × Nat)) := []
def a_ldcT2 : List (Nat × (Int32 ⊕ (Nat × String)) × (Nat × Nat)) := []
def a_ldcT3 : List (Nat × (Int32 ⊕ (Nat × String)) × (Nat × Nat)) := []
def a_ldcT4 : List (Nat × (Int32 ⊕ (Nat × String)) × (Nat × Nat)) := []
def a_ldcT5 : List (Nat × (Int32 ⊕ (Nat × String)) × (Nat × Nat)) := []
def a_ldcT6 : List (Nat × (Int32 ⊕ (Nat × String)) × (Nat × Nat)) := [(150, .inr (0, "size"), (2, 199)), (152, .inr (1, "guard"), (2, 200)), (153, .inr (2, "fine"), (2, 201)), (154, .inr (3, "read"), (2, 202)), (156, .inr (4, "bare"), (2, 203)), (158, .inr (5, "pass"), (2, 204)), (160, .inr (6, "kind"), (2, 205))]
def a_ldcT7 : List (Nat × (Int32 ⊕ (Nat × String)) × (Nat × Nat)) := []
def a_ldcT8 : List (Nat × (Int32 ⊕ (Nat × String)) × (Nat × Nat)) := [(73, .inl (-100000002), (2, 161)), (82, .inl (-100000004), (2, 167)), (138, .inl (-100000001), (3, 98)), (169, .inl (-100000003), (3, 124))]
def a_ldcT9 : List (Nat × (Int32 ⊕ (Nat × String)) × (Nat × Nat)) := [(82, .inl (-100000002), (5, 106)), (86, .inl (-100000004), (5, 107)), (117, .inl (99999), (5, 152)), (184, .inl (-100000001), (5, 185)), (224, .inl (-100000003), (5, 217)), (265, .inl (65536), (6, 90))]
def a_ldcT10 : List (Nat × (Int32 ⊕ (Nat × String)) × (Nat × Nat)) := []
def a_ldcT11 : List (Nat × (Int32 ⊕ (Nat × String)) × (Nat × Nat)) := [(264, .inl (65536), (3, 144)), (265, .inl (1431655765), (4, 8)), (266, .inl (858993459), (4, 9)), (267, .inl (252645135), (4, 10))]
def a_ldcT12 : List (Nat × (Int32 ⊕ (Nat × String)) × (Nat × Nat)) := []
def a_ldcT (cn : Nat) : List (Nat × (Int32 ⊕ (Nat × String)) × (Nat × Nat)) := match cn with
  | 0 => a_ldcT0
  | 1 => a_ldcT1
  | 2 => a_ldcT2
  | 3 => a_ldcT3
  | 4 => a_ldcT4
  | 5 => a_ldcT5
  | 6 => a_ldcT6
  | 7 => a_ldcT7
  | 8 => a_ldcT8
  | 9 => a_ldcT9
  | 10 => a_ldcT10
  | 11 => a_ldcT11
  | 12 => a_ldcT12
  | _ => []
def a_ldc2T0 : List (Nat × Int64 × (Nat × Nat)) := [(114, 1103515245, (4, 66)), (116, 12345, (4, 67)), (118, 2147483648, (4, 68))]
def a_ldc2T1 : List (Nat × Int64 × (Nat × Nat)) := []
def a_ldc2T2 : List (Nat × Int64 × (Nat × Nat)) := []
def a_ldc2T3 : List (Nat × Int64 × (Nat × Nat)) := []
def a_ldc2T4 : List (Nat × Int64 × (Nat × Nat)) := []
def a_ldc2T5 : List (Nat × Int64 × (Nat × Nat)) := []
def a_ldc2T6 : List (Nat × Int64 × (Nat × Nat)) := [(22, 255, (2, 166))]
def a_ldc2T7 : List (Nat × Int64 × (Nat × Nat)) := []
def a_ldc2T8 : List (Nat × Int64 × (Nat × Nat)) := []
def a_ldc2T9 : List (Nat × Int64 × (Nat × Nat)) := [(76, 8, (5, 102)), (87, 255, (5, 108)), (102, 97, (5, 125)), (104, 122, (5, 126)), (109, 48, (5, 150)), (111, 57, (5, 151)), (229, 999, (6, 6)), (259, 1103515245, (6, 87)), (261, 12345, (6, 88)), (263, 2147483648, (6, 89)), (266, 100, (6, 82)), (271, 5, (6, 95)), (301, 2, (6, 141)), (306, 4, (6, 158)), (311, 12, (6, 163))]
def a_ldc2T10 : List (Nat × Int64 × (Nat × Nat)) := [(13, 4294967295, (6, 180))]
def a_ldc2T11 : List (Nat × Int64 × (Nat × Nat)) := []
def a_ldc2T12 : List (Nat × Int64 × (Nat × Nat)) := []
def a_ldc2T (cn : Nat) : List (Nat × Int64 × (Nat × Nat)) := match cn with
  | 0 => a_ldc2T0
  | 1 => a_ldc2T1
  | 2 => a_ldc2T2
  | 3 => a_ldc2T3
  | 4 => a_ldc2T4
  | 5 => a_ldc2T5
  | 6 => a_ldc2T6
  | 7 => a_ldc2T7
  | 8 => a_ldc2T8
  | 9 => a_ldc2T9
  | 10 => a_ldc2T10
  | 11 => a_ldc2T11
  | 12 => a_ldc2T12
  | _ => []
def a_newT0 : List (Nat × Nat × (Nat × Nat) × (Nat × Nat) × (Nat × Nat)) := []
def a_newT1 : List (Nat × Nat × (Nat × Nat) × (Nat × Nat) × (Nat × Nat)) := [(7, 0, (1, 217), (1, 153), (1, 5))]
def a_newT2 : List (Nat × Nat × (Nat × Nat) × (Nat × Nat) × (Nat × Nat)) := []
def a_newT3 : List (Nat × Nat × (Nat × Nat) × (Nat × Nat) × (Nat × Nat)) := []
def a_newT4 : List (Nat × Nat × (Nat × Nat) × (Nat × Nat) × (Nat × Nat)) := [(13, 0, (2, 46), (1, 153), (1, 5)), (22, 7, (2, 48), (1, 228), (1, 7))]
def a_newT5 : List (Nat × Nat × (Nat × Nat) × (Nat × Nat) × (Nat × Nat)) := []
def a_newT6 : List (Nat × Nat × (Nat × Nat) × (Nat × Nat) × (Nat × Nat)) := []
def a_newT7 : List (Nat × Nat × (Nat × Nat) × (Nat × Nat) × (Nat × Nat)) := []
def a_newT8 : List (Nat × Nat × (Nat × Nat) × (Nat × Nat) × (Nat × Nat)) := [(7, 5, (1, 26), (1, 27), (1, 2)), (19, 6, (1, 117), (1, 118), (1, 4)), (26, 0, (1, 152), (1, 153), (1, 5)), (35, 1, (1, 211), (1, 212), (1, 6)), (45, 7, (1, 227), (1, 228), (1, 7)), (52, 2, (2, 21), (2, 22), (1, 8)), (59, 4, (2, 40), (2, 41), (1, 9)), (66, 3, (2, 91), (2, 92), (1, 10))]
def a_newT9 : List (Nat × Nat × (Nat × Nat) × (Nat × Nat) × (Nat × Nat)) := []
def a_newT10 : List (Nat × Nat × (Nat × Nat) × (Nat × Nat) × (Nat × Nat)) := [(7, 8, (1, 18), (1, 19), (1, 1)), (10, 9, (4, 219), (4, 220), (1, 11))]
def a_newT11 : List (Nat × Nat × (Nat × Nat) × (Nat × Nat) × (Nat × Nat)) := []
def a_newT12 : List (Nat × Nat × (Nat × Nat) × (Nat × Nat) × (Nat × Nat)) := []
def a_newT (cn : Nat) : List (Nat × Nat × (Nat × Nat) × (Nat × Nat) × (Nat × Nat)) := match cn with
  | 0 => a_newT0
  | 1 => a_newT1
  | 2 => a_newT2
  | 3 => a_newT3
  | 4 => a_newT4
  | 5 => a_newT5
  | 6 => a_newT6
  | 7 => a_newT7
  | 8 => a_newT8
  | 9 => a_newT9
  | 10 => a_newT10
  | 11 => a_newT11
  | 12 => a_newT12
  | _ => []
def a_arrP (t : Nat) : Nat × Nat := match t with
  | 0 => (1, 116)
  | 1 => (5, 97)
  | _ => (1, 151)
def a_strs : List String := ["size", "guard", "fine", "read", "bare", "pass", "kind"]
end
section
def a_ckI (b : ByteArray) (l : a_IL) : Bool := l.all (fun e => decide (decode b e.1 = .ok e.2))
theorem a_ck_cut {b : ByteArray} {l : a_IL} (n : Nat) (h1 : a_ckI b (l.take n) = true) (h2 : a_ckI b (l.drop n) = true) : a_ckI b l = true := by
  have h : a_ckI b (l.take n ++ l.drop n) = true := by
    unfold a_ckI at h1 h2 ⊢
    rw [List.all_append, h1, h2]
    rfl
  rw [List.take_append_drop] at h
  exact h

theorem cIX0_init : a_ckI (a_b mX0_init) (a_il mX0_init) = true := by decide +kernel
theorem cIX0_takeAllAway : a_ckI (a_b mX0_takeAllAway) (a_il mX0_takeAllAway) = true := by decide +kernel
theorem cIX0_copyFrom_0 : a_ckI (a_b mX0_copyFrom) ((a_il mX0_copyFrom).take 40) = true := by decide +kernel
theorem cIX0_copyFrom_1 : a_ckI (a_b mX0_copyFrom) ((a_il mX0_copyFrom).drop 40) = true := by decide +kernel
theorem cIX0_copyFrom : a_ckI (a_b mX0_copyFrom) (a_il mX0_copyFrom) = true := a_ck_cut 40 cIX0_copyFrom_0 (cIX0_copyFrom_1)
theorem cIX0_has : a_ckI (a_b mX0_has) (a_il mX0_has) = true := by decide +kernel
theorem cIX0_isFull : a_ckI (a_b mX0_isFull) (a_il mX0_isFull) = true := by decide +kernel
theorem cIX0_isOn : a_ckI (a_b mX0_isOn) (a_il mX0_isOn) = true := by decide +kernel
theorem cIX0_ownerOf : a_ckI (a_b mX0_ownerOf) (a_il mX0_ownerOf) = true := by decide +kernel
theorem cIX0_allCells : a_ckI (a_b mX0_allCells) (a_il mX0_allCells) = true := by decide +kernel
theorem cIX0_right : a_ckI (a_b mX0_right) (a_il mX0_right) = true := by decide +kernel
theorem cIX0_bottom : a_ckI (a_b mX0_bottom) (a_il mX0_bottom) = true := by decide +kernel
theorem cIX0_topAt : a_ckI (a_b mX0_topAt) (a_il mX0_topAt) = true := by decide +kernel
theorem cIX0_hang_0 : a_ckI (a_b mX0_hang) ((a_il mX0_hang).take 40) = true := by decide +kernel
theorem cIX0_hang_1 : a_ckI (a_b mX0_hang) ((a_il mX0_hang).drop 40) = true := by decide +kernel
theorem cIX0_hang : a_ckI (a_b mX0_hang) (a_il mX0_hang) = true := a_ck_cut 40 cIX0_hang_0 (cIX0_hang_1)
theorem cIX0_takeOff_0 : a_ckI (a_b mX0_takeOff) ((a_il mX0_takeOff).take 40) = true := by decide +kernel
theorem cIX0_takeOff_1 : a_ckI (a_b mX0_takeOff) ((a_il mX0_takeOff).drop 40) = true := by decide +kernel
theorem cIX0_takeOff : a_ckI (a_b mX0_takeOff) (a_il mX0_takeOff) = true := a_ck_cut 40 cIX0_takeOff_0 (cIX0_takeOff_1)
theorem cIX0_undoHang : a_ckI (a_b mX0_undoHang) (a_il mX0_undoHang) = true := by decide +kernel
theorem cIX0_tearTop : a_ckI (a_b mX0_tearTop) (a_il mX0_tearTop) = true := by decide +kernel
theorem cIX0_loosen : a_ckI (a_b mX0_loosen) (a_il mX0_loosen) = true := by decide +kernel
theorem cIX0_drawOfHundred : a_ckI (a_b mX0_drawOfHundred) (a_il mX0_drawOfHundred) = true := by decide +kernel
theorem cIX0_tornCells : a_ckI (a_b mX0_tornCells) (a_il mX0_tornCells) = true := by decide +kernel
theorem cIX0_hangingOf : a_ckI (a_b mX0_hangingOf) (a_il mX0_hangingOf) = true := by decide +kernel
theorem cIX0_coversOf : a_ckI (a_b mX0_coversOf) (a_il mX0_coversOf) = true := by decide +kernel
theorem cIX0_toFree : a_ckI (a_b mX0_toFree) (a_il mX0_toFree) = true := by decide +kernel
theorem cIX0_laterThan : a_ckI (a_b mX0_laterThan) (a_il mX0_laterThan) = true := by decide +kernel
theorem cIX1_init : a_ckI (a_b mX1_init) (a_il mX1_init) = true := by decide +kernel
theorem cIX2_init : a_ckI (a_b mX2_init) (a_il mX2_init) = true := by decide +kernel
theorem cIX2_toRead_0 : a_ckI (a_b mX2_toRead) ((a_il mX2_toRead).take 40) = true := by decide +kernel
theorem cIX2_toRead_1 : a_ckI (a_b mX2_toRead) ((a_il mX2_toRead).drop 40) = true := by decide +kernel
theorem cIX2_toRead : a_ckI (a_b mX2_toRead) (a_il mX2_toRead) = true := a_ck_cut 40 cIX2_toRead_0 (cIX2_toRead_1)
theorem cIX2_lookUnder_0 : a_ckI (a_b mX2_lookUnder) ((a_il mX2_lookUnder).take 40) = true := by decide +kernel
theorem cIX2_lookUnder_1 : a_ckI (a_b mX2_lookUnder) ((a_il mX2_lookUnder).drop 40) = true := by decide +kernel
theorem cIX2_lookUnder : a_ckI (a_b mX2_lookUnder) (a_il mX2_lookUnder) = true := a_ck_cut 40 cIX2_lookUnder_0 (cIX2_lookUnder_1)
theorem cIX2_isLiftable : a_ckI (a_b mX2_isLiftable) (a_il mX2_isLiftable) = true := by decide +kernel
theorem cIX2_seenWithout : a_ckI (a_b mX2_seenWithout) (a_il mX2_seenWithout) = true := by decide +kernel
theorem cIX3_init : a_ckI (a_b mX3_init) (a_il mX3_init) = true := by decide +kernel
theorem cIX3_forget : a_ckI (a_b mX3_forget) (a_il mX3_forget) = true := by decide +kernel
theorem cIX3_has : a_ckI (a_b mX3_has) (a_il mX3_has) = true := by decide +kernel
theorem cIX3_add_0 : a_ckI (a_b mX3_add) ((a_il mX3_add).take 40) = true := by decide +kernel
theorem cIX3_add_1 : a_ckI (a_b mX3_add) ((a_il mX3_add).drop 40) = true := by decide +kernel
theorem cIX3_add : a_ckI (a_b mX3_add) (a_il mX3_add) = true := a_ck_cut 40 cIX3_add_0 (cIX3_add_1)
theorem cIX3_countOrders_0 : a_ckI (a_b mX3_countOrders) ((a_il mX3_countOrders).take 40) = true := by decide +kernel
theorem cIX3_countOrders_1 : a_ckI (a_b mX3_countOrders) ((a_il mX3_countOrders).drop 40) = true := by decide +kernel
theorem cIX3_countOrders : a_ckI (a_b mX3_countOrders) (a_il mX3_countOrders) = true := a_ck_cut 40 cIX3_countOrders_0 (cIX3_countOrders_1)
theorem cIX3_firstOrderAt : a_ckI (a_b mX3_firstOrderAt) (a_il mX3_firstOrderAt) = true := by decide +kernel
theorem cIX3_liesOver : a_ckI (a_b mX3_liesOver) (a_il mX3_liesOver) = true := by decide +kernel
theorem cIX3_hasOrder : a_ckI (a_b mX3_hasOrder) (a_il mX3_hasOrder) = true := by decide +kernel
theorem cIX3_leastThatCanStand : a_ckI (a_b mX3_leastThatCanStand) (a_il mX3_leastThatCanStand) = true := by decide +kernel
theorem cIX3_relate_0 : a_ckI (a_b mX3_relate) ((a_il mX3_relate).take 40) = true := by decide +kernel
theorem cIX3_relate_1 : a_ckI (a_b mX3_relate) ((a_il mX3_relate).drop 40) = true := by decide +kernel
theorem cIX3_relate : a_ckI (a_b mX3_relate) (a_il mX3_relate) = true := a_ck_cut 40 cIX3_relate_0 (cIX3_relate_1)
theorem cIX4_init : a_ckI (a_b mX4_init) (a_il mX4_init) = true := by decide +kernel
theorem cIX4_findOne_0 : a_ckI (a_b mX4_findOne) ((a_il mX4_findOne).take 40) = true := by decide +kernel
theorem cIX4_findOne_1 : a_ckI (a_b mX4_findOne) ((a_il mX4_findOne).drop 40) = true := by decide +kernel
theorem cIX4_findOne : a_ckI (a_b mX4_findOne) (a_il mX4_findOne) = true := a_ck_cut 40 cIX4_findOne_0 (cIX4_findOne_1)
theorem cIX4_findTwo_0 : a_ckI (a_b mX4_findTwo) ((a_il mX4_findTwo).take 40) = true := by decide +kernel
theorem cIX4_findTwo_1 : a_ckI (a_b mX4_findTwo) ((a_il mX4_findTwo).drop 40) = true := by decide +kernel
theorem cIX4_findTwo : a_ckI (a_b mX4_findTwo) (a_il mX4_findTwo) = true := a_ck_cut 40 cIX4_findTwo_0 (cIX4_findTwo_1)
theorem cIX4_findSecond_0 : a_ckI (a_b mX4_findSecond) ((a_il mX4_findSecond).take 40) = true := by decide +kernel
theorem cIX4_findSecond_1 : a_ckI (a_b mX4_findSecond) ((a_il mX4_findSecond).drop 40) = true := by decide +kernel
theorem cIX4_findSecond : a_ckI (a_b mX4_findSecond) (a_il mX4_findSecond) = true := a_ck_cut 40 cIX4_findSecond_0 (cIX4_findSecond_1)
theorem cIX4_isBetter : a_ckI (a_b mX4_isBetter) (a_il mX4_isBetter) = true := by decide +kernel
theorem cIX4_compete : a_ckI (a_b mX4_compete) (a_il mX4_compete) = true := by decide +kernel
theorem cIX4_takeTurn : a_ckI (a_b mX4_takeTurn) (a_il mX4_takeTurn) = true := by decide +kernel
theorem cIX4_worthAtLast : a_ckI (a_b mX4_worthAtLast) (a_il mX4_worthAtLast) = true := by decide +kernel
theorem cIX5_init : a_ckI (a_b mX5_init) (a_il mX5_init) = true := by decide +kernel
theorem cIX5_untell : a_ckI (a_b mX5_untell) (a_il mX5_untell) = true := by decide +kernel
theorem cIX5_copyFrom_0 : a_ckI (a_b mX5_copyFrom) ((a_il mX5_copyFrom).take 40) = true := by decide +kernel
theorem cIX5_copyFrom_1 : a_ckI (a_b mX5_copyFrom) ((a_il mX5_copyFrom).drop 40) = true := by decide +kernel
theorem cIX5_copyFrom : a_ckI (a_b mX5_copyFrom) (a_il mX5_copyFrom) = true := a_ck_cut 40 cIX5_copyFrom_0 (cIX5_copyFrom_1)
theorem cIX5_addStrip : a_ckI (a_b mX5_addStrip) (a_il mX5_addStrip) = true := by decide +kernel
theorem cIX5_addKind : a_ckI (a_b mX5_addKind) (a_il mX5_addKind) = true := by decide +kernel
theorem cIX5_hasKind : a_ckI (a_b mX5_hasKind) (a_il mX5_hasKind) = true := by decide +kernel
theorem cIX5_hasCell : a_ckI (a_b mX5_hasCell) (a_il mX5_hasCell) = true := by decide +kernel
theorem cIX5_holds : a_ckI (a_b mX5_holds) (a_il mX5_holds) = true := by decide +kernel
theorem cIX5_isBarred : a_ckI (a_b mX5_isBarred) (a_il mX5_isBarred) = true := by decide +kernel
theorem cIX5_canRead : a_ckI (a_b mX5_canRead) (a_il mX5_canRead) = true := by decide +kernel
theorem cIX5_passersOf : a_ckI (a_b mX5_passersOf) (a_il mX5_passersOf) = true := by decide +kernel
theorem cIX6_init : a_ckI (a_b mX6_init) (a_il mX6_init) = true := by decide +kernel
theorem cIX6_append : a_ckI (a_b mX6_append) (a_il mX6_append) = true := by decide +kernel
theorem cIX6_readInto : a_ckI (a_b mX6_readInto) (a_il mX6_readInto) = true := by decide +kernel
theorem cIX6_isFaultless : a_ckI (a_b mX6_isFaultless) (a_il mX6_isFaultless) = true := by decide +kernel
theorem cIX6_fail : a_ckI (a_b mX6_fail) (a_il mX6_fail) = true := by decide +kernel
theorem cIX6_readClause : a_ckI (a_b mX6_readClause) (a_il mX6_readClause) = true := by decide +kernel
theorem cIX6_isSizeTooLate : a_ckI (a_b mX6_isSizeTooLate) (a_il mX6_isSizeTooLate) = true := by decide +kernel
theorem cIX6_isTold : a_ckI (a_b mX6_isTold) (a_il mX6_isTold) = true := by decide +kernel
theorem cIX6_readNumbers : a_ckI (a_b mX6_readNumbers) (a_il mX6_readNumbers) = true := by decide +kernel
theorem cIX6_readStrip : a_ckI (a_b mX6_readStrip) (a_il mX6_readStrip) = true := by decide +kernel
theorem cIX6_readPassers : a_ckI (a_b mX6_readPassers) (a_il mX6_readPassers) = true := by decide +kernel
theorem cIX6_readKind : a_ckI (a_b mX6_readKind) (a_il mX6_readKind) = true := by decide +kernel
theorem cIX6_readNumber_0 : a_ckI (a_b mX6_readNumber) ((a_il mX6_readNumber).take 40) = true := by decide +kernel
theorem cIX6_readNumber_1 : a_ckI (a_b mX6_readNumber) ((a_il mX6_readNumber).drop 40) = true := by decide +kernel
theorem cIX6_readNumber : a_ckI (a_b mX6_readNumber) (a_il mX6_readNumber) = true := a_ck_cut 40 cIX6_readNumber_0 (cIX6_readNumber_1)
theorem cIX6_readEnd : a_ckI (a_b mX6_readEnd) (a_il mX6_readEnd) = true := by decide +kernel
theorem cIX6_skipBlanks : a_ckI (a_b mX6_skipBlanks) (a_il mX6_skipBlanks) = true := by decide +kernel
theorem cIX6_readWord : a_ckI (a_b mX6_readWord) (a_il mX6_readWord) = true := by decide +kernel
theorem cIX6_spells : a_ckI (a_b mX6_spells) (a_il mX6_spells) = true := by decide +kernel
theorem cIX6_nameOf : a_ckI (a_b mX6_nameOf) (a_il mX6_nameOf) = true := by decide +kernel
theorem cIX6_isLetter : a_ckI (a_b mX6_isLetter) (a_il mX6_isLetter) = true := by decide +kernel
theorem cIX6_isFigure : a_ckI (a_b mX6_isFigure) (a_il mX6_isFigure) = true := by decide +kernel
theorem cIX7_init : a_ckI (a_b mX7_init) (a_il mX7_init) = true := by decide +kernel
theorem cIX7_lookAt_0 : a_ckI (a_b mX7_lookAt) ((a_il mX7_lookAt).take 40) = true := by decide +kernel
theorem cIX7_lookAt_1 : a_ckI (a_b mX7_lookAt) ((a_il mX7_lookAt).drop 40) = true := by decide +kernel
theorem cIX7_lookAt : a_ckI (a_b mX7_lookAt) (a_il mX7_lookAt) = true := a_ck_cut 40 cIX7_lookAt_0 (cIX7_lookAt_1)
theorem cIX7_worthOf : a_ckI (a_b mX7_worthOf) (a_il mX7_worthOf) = true := by decide +kernel
theorem cIX7_worthOfOwner : a_ckI (a_b mX7_worthOfOwner) (a_il mX7_worthOfOwner) = true := by decide +kernel
theorem cIX7_weigh_0 : a_ckI (a_b mX7_weigh) ((a_il mX7_weigh).take 40) = true := by decide +kernel
theorem cIX7_weigh_1 : a_ckI (a_b mX7_weigh) ((a_il mX7_weigh).drop 40) = true := by decide +kernel
theorem cIX7_weigh : a_ckI (a_b mX7_weigh) (a_il mX7_weigh) = true := a_ck_cut 40 cIX7_weigh_0 (cIX7_weigh_1)
theorem cIX7_hide_0 : a_ckI (a_b mX7_hide) ((a_il mX7_hide).take 40) = true := by decide +kernel
theorem cIX7_hide_1 : a_ckI (a_b mX7_hide) ((a_il mX7_hide).drop 40) = true := by decide +kernel
theorem cIX7_hide : a_ckI (a_b mX7_hide) (a_il mX7_hide) = true := a_ck_cut 40 cIX7_hide_0 (cIX7_hide_1)
theorem cIX7_weighLoss_0 : a_ckI (a_b mX7_weighLoss) ((a_il mX7_weighLoss).take 40) = true := by decide +kernel
theorem cIX7_weighLoss_1 : a_ckI (a_b mX7_weighLoss) ((a_il mX7_weighLoss).drop 40) = true := by decide +kernel
theorem cIX7_weighLoss : a_ckI (a_b mX7_weighLoss) (a_il mX7_weighLoss) = true := a_ck_cut 40 cIX7_weighLoss_0 (cIX7_weighLoss_1)
theorem cIX8_init_0 : a_ckI (a_b mX8_init) ((a_il mX8_init).take 40) = true := by decide +kernel
theorem cIX8_init_1 : a_ckI (a_b mX8_init) ((a_il mX8_init).drop 40) = true := by decide +kernel
theorem cIX8_init : a_ckI (a_b mX8_init) (a_il mX8_init) = true := a_ck_cut 40 cIX8_init_0 (cIX8_init_1)
theorem cIX8_feed : a_ckI (a_b mX8_feed) (a_il mX8_feed) = true := by decide +kernel
theorem cIX8_wall : a_ckI (a_b mX8_wall) (a_il mX8_wall) = true := by decide +kernel
theorem cIX8_fault : a_ckI (a_b mX8_fault) (a_il mX8_fault) = true := by decide +kernel
theorem cIX8_told : a_ckI (a_b mX8_told) (a_il mX8_told) = true := by decide +kernel
theorem cIX8_kind : a_ckI (a_b mX8_kind) (a_il mX8_kind) = true := by decide +kernel
theorem cIX8_passes : a_ckI (a_b mX8_passes) (a_il mX8_passes) = true := by decide +kernel
theorem cIX8_bare : a_ckI (a_b mX8_bare) (a_il mX8_bare) = true := by decide +kernel
theorem cIX8_paste_0 : a_ckI (a_b mX8_paste) ((a_il mX8_paste).take 40) = true := by decide +kernel
theorem cIX8_paste_1 : a_ckI (a_b mX8_paste) ((a_il mX8_paste).drop 40) = true := by decide +kernel
theorem cIX8_paste : a_ckI (a_b mX8_paste) (a_il mX8_paste) = true := a_ck_cut 40 cIX8_paste_0 (cIX8_paste_1)
theorem cIX8_days : a_ckI (a_b mX8_days) (a_il mX8_days) = true := by decide +kernel
theorem cIX8_above : a_ckI (a_b mX8_above) (a_il mX8_above) = true := by decide +kernel
theorem cIX8_bill_0 : a_ckI (a_b mX8_bill) ((a_il mX8_bill).take 40) = true := by decide +kernel
theorem cIX8_bill_1 : a_ckI (a_b mX8_bill) ((a_il mX8_bill).drop 40) = true := by decide +kernel
theorem cIX8_bill : a_ckI (a_b mX8_bill) (a_il mX8_bill) = true := a_ck_cut 40 cIX8_bill_0 (cIX8_bill_1)
theorem cIX8_over : a_ckI (a_b mX8_over) (a_il mX8_over) = true := by decide +kernel
theorem cIX8_free : a_ckI (a_b mX8_free) (a_il mX8_free) = true := by decide +kernel
theorem cIX8_reveal : a_ckI (a_b mX8_reveal) (a_il mX8_reveal) = true := by decide +kernel
theorem cIX8_peel : a_ckI (a_b mX8_peel) (a_il mX8_peel) = true := by decide +kernel
end
section
theorem cIX8_tear : a_ckI (a_b mX8_tear) (a_il mX8_tear) = true := by decide +kernel
theorem cIX8_rain : a_ckI (a_b mX8_rain) (a_il mX8_rain) = true := by decide +kernel
theorem cIX8_owner : a_ckI (a_b mX8_owner) (a_il mX8_owner) = true := by decide +kernel
theorem cIX8_show : a_ckI (a_b mX8_show) (a_il mX8_show) = true := by decide +kernel
theorem cIX8_look : a_ckI (a_b mX8_look) (a_il mX8_look) = true := by decide +kernel
theorem cIX8_burn : a_ckI (a_b mX8_burn) (a_il mX8_burn) = true := by decide +kernel
theorem cIX8_orders : a_ckI (a_b mX8_orders) (a_il mX8_orders) = true := by decide +kernel
theorem cIX8_order : a_ckI (a_b mX8_order) (a_il mX8_order) = true := by decide +kernel
theorem cIX8_surely : a_ckI (a_b mX8_surely) (a_il mX8_surely) = true := by decide +kernel
theorem cIX8_best : a_ckI (a_b mX8_best) (a_il mX8_best) = true := by decide +kernel
theorem cIX8_two_0 : a_ckI (a_b mX8_two) ((a_il mX8_two).take 40) = true := by decide +kernel
theorem cIX8_two_1 : a_ckI (a_b mX8_two) ((a_il mX8_two).drop 40) = true := by decide +kernel
theorem cIX8_two : a_ckI (a_b mX8_two) (a_il mX8_two) = true := a_ck_cut 40 cIX8_two_0 (cIX8_two_1)
theorem cIX8_rivals : a_ckI (a_b mX8_rivals) (a_il mX8_rivals) = true := by decide +kernel
theorem cIX8_seed : a_ckI (a_b mX8_seed) (a_il mX8_seed) = true := by decide +kernel
theorem cIX8_keep : a_ckI (a_b mX8_keep) (a_il mX8_keep) = true := by decide +kernel
theorem cIX8_goBack : a_ckI (a_b mX8_goBack) (a_il mX8_goBack) = true := by decide +kernel
theorem cIX8_imageOf : a_ckI (a_b mX8_imageOf) (a_il mX8_imageOf) = true := by decide +kernel
theorem cIX8_isIn : a_ckI (a_b mX8_isIn) (a_il mX8_isIn) = true := by decide +kernel
theorem cIX8_cellAt : a_ckI (a_b mX8_cellAt) (a_il mX8_cellAt) = true := by decide +kernel
theorem cIX9_init_0 : a_ckI (a_b mX9_init) ((a_il mX9_init).take 40) = true := by decide +kernel
theorem cIX9_init_1 : a_ckI (a_b mX9_init) (((a_il mX9_init).drop 40).take 40) = true := by decide +kernel
theorem cIX9_init_2 : a_ckI (a_b mX9_init) (((a_il mX9_init).drop 40).drop 40) = true := by decide +kernel
theorem cIX9_init : a_ckI (a_b mX9_init) (a_il mX9_init) = true := a_ck_cut 40 cIX9_init_0 (a_ck_cut 40 cIX9_init_1 (cIX9_init_2))
theorem cIX9_in : a_ckI (a_b mX9_in) (a_il mX9_in) = true := by decide +kernel
theorem cIX9_one : a_ckI (a_b mX9_one) (a_il mX9_one) = true := by decide +kernel
theorem cIX9_has : a_ckI (a_b mX9_has) (a_il mX9_has) = true := by decide +kernel
theorem cIX9_ones : a_ckI (a_b mX9_ones) (a_il mX9_ones) = true := by decide +kernel
theorem cIX9_untold : a_ckI (a_b mX9_untold) (a_il mX9_untold) = true := by decide +kernel
theorem cIX9_feed : a_ckI (a_b mX9_feed) (a_il mX9_feed) = true := by decide +kernel
theorem cIX9_here : a_ckI (a_b mX9_here) (a_il mX9_here) = true := by decide +kernel
theorem cIX9_want : a_ckI (a_b mX9_want) (a_il mX9_want) = true := by decide +kernel
theorem cIX9_takeWord : a_ckI (a_b mX9_takeWord) (a_il mX9_takeWord) = true := by decide +kernel
theorem cIX9_isWord_0 : a_ckI (a_b mX9_isWord) ((a_il mX9_isWord).take 40) = true := by decide +kernel
theorem cIX9_isWord_1 : a_ckI (a_b mX9_isWord) ((a_il mX9_isWord).drop 40) = true := by decide +kernel
theorem cIX9_isWord : a_ckI (a_b mX9_isWord) (a_il mX9_isWord) = true := a_ck_cut 40 cIX9_isWord_0 (cIX9_isWord_1)
theorem cIX9_takeNumber_0 : a_ckI (a_b mX9_takeNumber) ((a_il mX9_takeNumber).take 40) = true := by decide +kernel
theorem cIX9_takeNumber_1 : a_ckI (a_b mX9_takeNumber) (((a_il mX9_takeNumber).drop 40).take 40) = true := by decide +kernel
theorem cIX9_takeNumber_2 : a_ckI (a_b mX9_takeNumber) (((a_il mX9_takeNumber).drop 40).drop 40) = true := by decide +kernel
theorem cIX9_takeNumber : a_ckI (a_b mX9_takeNumber) (a_il mX9_takeNumber) = true := a_ck_cut 40 cIX9_takeNumber_0 (a_ck_cut 40 cIX9_takeNumber_1 (cIX9_takeNumber_2))
theorem cIX9_once : a_ckI (a_b mX9_once) (a_il mX9_once) = true := by decide +kernel
theorem cIX9_takeSize : a_ckI (a_b mX9_takeSize) (a_il mX9_takeSize) = true := by decide +kernel
theorem cIX9_takeBare_0 : a_ckI (a_b mX9_takeBare) ((a_il mX9_takeBare).take 40) = true := by decide +kernel
theorem cIX9_takeBare_1 : a_ckI (a_b mX9_takeBare) (((a_il mX9_takeBare).drop 40).take 40) = true := by decide +kernel
theorem cIX9_takeBare_2 : a_ckI (a_b mX9_takeBare) (((a_il mX9_takeBare).drop 40).drop 40) = true := by decide +kernel
theorem cIX9_takeBare : a_ckI (a_b mX9_takeBare) (a_il mX9_takeBare) = true := a_ck_cut 40 cIX9_takeBare_0 (a_ck_cut 40 cIX9_takeBare_1 (cIX9_takeBare_2))
theorem cIX9_takePass : a_ckI (a_b mX9_takePass) (a_il mX9_takePass) = true := by decide +kernel
theorem cIX9_takeKind_0 : a_ckI (a_b mX9_takeKind) ((a_il mX9_takeKind).take 40) = true := by decide +kernel
theorem cIX9_takeKind_1 : a_ckI (a_b mX9_takeKind) ((a_il mX9_takeKind).drop 40) = true := by decide +kernel
theorem cIX9_takeKind : a_ckI (a_b mX9_takeKind) (a_il mX9_takeKind) = true := a_ck_cut 40 cIX9_takeKind_0 (cIX9_takeKind_1)
theorem cIX9_takeClause_0 : a_ckI (a_b mX9_takeClause) ((a_il mX9_takeClause).take 40) = true := by decide +kernel
theorem cIX9_takeClause_1 : a_ckI (a_b mX9_takeClause) (((a_il mX9_takeClause).drop 40).take 40) = true := by decide +kernel
theorem cIX9_takeClause_2 : a_ckI (a_b mX9_takeClause) ((((a_il mX9_takeClause).drop 40).drop 40).take 40) = true := by decide +kernel
theorem cIX9_takeClause_3 : a_ckI (a_b mX9_takeClause) ((((a_il mX9_takeClause).drop 40).drop 40).drop 40) = true := by decide +kernel
theorem cIX9_takeClause : a_ckI (a_b mX9_takeClause) (a_il mX9_takeClause) = true := a_ck_cut 40 cIX9_takeClause_0 (a_ck_cut 40 cIX9_takeClause_1 (a_ck_cut 40 cIX9_takeClause_2 (cIX9_takeClause_3)))
theorem cIX9_wall_0 : a_ckI (a_b mX9_wall) ((a_il mX9_wall).take 40) = true := by decide +kernel
theorem cIX9_wall_1 : a_ckI (a_b mX9_wall) (((a_il mX9_wall).drop 40).take 40) = true := by decide +kernel
theorem cIX9_wall_2 : a_ckI (a_b mX9_wall) ((((a_il mX9_wall).drop 40).drop 40).take 40) = true := by decide +kernel
theorem cIX9_wall_3 : a_ckI (a_b mX9_wall) (((((a_il mX9_wall).drop 40).drop 40).drop 40).take 40) = true := by decide +kernel
theorem cIX9_wall_4 : a_ckI (a_b mX9_wall) ((((((a_il mX9_wall).drop 40).drop 40).drop 40).drop 40).take 40) = true := by decide +kernel
theorem cIX9_wall_5 : a_ckI (a_b mX9_wall) ((((((a_il mX9_wall).drop 40).drop 40).drop 40).drop 40).drop 40) = true := by decide +kernel
theorem cIX9_wall : a_ckI (a_b mX9_wall) (a_il mX9_wall) = true := a_ck_cut 40 cIX9_wall_0 (a_ck_cut 40 cIX9_wall_1 (a_ck_cut 40 cIX9_wall_2 (a_ck_cut 40 cIX9_wall_3 (a_ck_cut 40 cIX9_wall_4 (cIX9_wall_5)))))
theorem cIX9_fault : a_ckI (a_b mX9_fault) (a_il mX9_fault) = true := by decide +kernel
theorem cIX9_told : a_ckI (a_b mX9_told) (a_il mX9_told) = true := by decide +kernel
theorem cIX9_isKind : a_ckI (a_b mX9_isKind) (a_il mX9_isKind) = true := by decide +kernel
theorem cIX9_kind : a_ckI (a_b mX9_kind) (a_il mX9_kind) = true := by decide +kernel
theorem cIX9_passes : a_ckI (a_b mX9_passes) (a_il mX9_passes) = true := by decide +kernel
theorem cIX9_isCell : a_ckI (a_b mX9_isCell) (a_il mX9_isCell) = true := by decide +kernel
theorem cIX9_bare : a_ckI (a_b mX9_bare) (a_il mX9_bare) = true := by decide +kernel
theorem cIX9_copy : a_ckI (a_b mX9_copy) (a_il mX9_copy) = true := by decide +kernel
theorem cIX9_ownerOf : a_ckI (a_b mX9_ownerOf) (a_il mX9_ownerOf) = true := by decide +kernel
theorem cIX9_sizeOf : a_ckI (a_b mX9_sizeOf) (a_il mX9_sizeOf) = true := by decide +kernel
theorem cIX9_reaches : a_ckI (a_b mX9_reaches) (a_il mX9_reaches) = true := by decide +kernel
theorem cIX9_isTorn : a_ckI (a_b mX9_isTorn) (a_il mX9_isTorn) = true := by decide +kernel
theorem cIX9_lies : a_ckI (a_b mX9_lies) (a_il mX9_lies) = true := by decide +kernel
theorem cIX9_aboveAt : a_ckI (a_b mX9_aboveAt) (a_il mX9_aboveAt) = true := by decide +kernel
theorem cIX9_see_0 : a_ckI (a_b mX9_see) ((a_il mX9_see).take 40) = true := by decide +kernel
theorem cIX9_see_1 : a_ckI (a_b mX9_see) ((a_il mX9_see).drop 40) = true := by decide +kernel
theorem cIX9_see : a_ckI (a_b mX9_see) (a_il mX9_see) = true := a_ck_cut 40 cIX9_see_0 (cIX9_see_1)
theorem cIX9_isRead : a_ckI (a_b mX9_isRead) (a_il mX9_isRead) = true := by decide +kernel
theorem cIX9_worthOf : a_ckI (a_b mX9_worthOf) (a_il mX9_worthOf) = true := by decide +kernel
theorem cIX9_lay_0 : a_ckI (a_b mX9_lay) ((a_il mX9_lay).take 40) = true := by decide +kernel
theorem cIX9_lay_1 : a_ckI (a_b mX9_lay) (((a_il mX9_lay).drop 40).take 40) = true := by decide +kernel
theorem cIX9_lay_2 : a_ckI (a_b mX9_lay) ((((a_il mX9_lay).drop 40).drop 40).take 40) = true := by decide +kernel
theorem cIX9_lay_3 : a_ckI (a_b mX9_lay) (((((a_il mX9_lay).drop 40).drop 40).drop 40).take 40) = true := by decide +kernel
theorem cIX9_lay_4 : a_ckI (a_b mX9_lay) (((((a_il mX9_lay).drop 40).drop 40).drop 40).drop 40) = true := by decide +kernel
theorem cIX9_lay : a_ckI (a_b mX9_lay) (a_il mX9_lay) = true := a_ck_cut 40 cIX9_lay_0 (a_ck_cut 40 cIX9_lay_1 (a_ck_cut 40 cIX9_lay_2 (a_ck_cut 40 cIX9_lay_3 (cIX9_lay_4))))
theorem cIX9_isWithin : a_ckI (a_b mX9_isWithin) (a_il mX9_isWithin) = true := by decide +kernel
theorem cIX9_isClear : a_ckI (a_b mX9_isClear) (a_il mX9_isClear) = true := by decide +kernel
theorem cIX9_paste : a_ckI (a_b mX9_paste) (a_il mX9_paste) = true := by decide +kernel
theorem cIX9_days : a_ckI (a_b mX9_days) (a_il mX9_days) = true := by decide +kernel
theorem cIX9_above : a_ckI (a_b mX9_above) (a_il mX9_above) = true := by decide +kernel
theorem cIX9_isBill : a_ckI (a_b mX9_isBill) (a_il mX9_isBill) = true := by decide +kernel
theorem cIX9_tornMany : a_ckI (a_b mX9_tornMany) (a_il mX9_tornMany) = true := by decide +kernel
theorem cIX9_bill_0 : a_ckI (a_b mX9_bill) ((a_il mX9_bill).take 40) = true := by decide +kernel
theorem cIX9_bill_1 : a_ckI (a_b mX9_bill) ((a_il mX9_bill).drop 40) = true := by decide +kernel
theorem cIX9_bill : a_ckI (a_b mX9_bill) (a_il mX9_bill) = true := a_ck_cut 40 cIX9_bill_0 (cIX9_bill_1)
theorem cIX9_overOf : a_ckI (a_b mX9_overOf) (a_il mX9_overOf) = true := by decide +kernel
theorem cIX9_over : a_ckI (a_b mX9_over) (a_il mX9_over) = true := by decide +kernel
theorem cIX9_freeOf : a_ckI (a_b mX9_freeOf) (a_il mX9_freeOf) = true := by decide +kernel
theorem cIX9_free : a_ckI (a_b mX9_free) (a_il mX9_free) = true := by decide +kernel
theorem cIX9_isWhole : a_ckI (a_b mX9_isWhole) (a_il mX9_isWhole) = true := by decide +kernel
theorem cIX9_isReadWithout : a_ckI (a_b mX9_isReadWithout) (a_il mX9_isReadWithout) = true := by decide +kernel
theorem cIX9_reveal_0 : a_ckI (a_b mX9_reveal) ((a_il mX9_reveal).take 40) = true := by decide +kernel
theorem cIX9_reveal_1 : a_ckI (a_b mX9_reveal) ((a_il mX9_reveal).drop 40) = true := by decide +kernel
theorem cIX9_reveal : a_ckI (a_b mX9_reveal) (a_il mX9_reveal) = true := a_ck_cut 40 cIX9_reveal_0 (cIX9_reveal_1)
theorem cIX9_peel_0 : a_ckI (a_b mX9_peel) ((a_il mX9_peel).take 40) = true := by decide +kernel
theorem cIX9_peel_1 : a_ckI (a_b mX9_peel) ((a_il mX9_peel).drop 40) = true := by decide +kernel
theorem cIX9_peel : a_ckI (a_b mX9_peel) (a_il mX9_peel) = true := a_ck_cut 40 cIX9_peel_0 (cIX9_peel_1)
theorem cIX9_tearAt : a_ckI (a_b mX9_tearAt) (a_il mX9_tearAt) = true := by decide +kernel
theorem cIX9_tear : a_ckI (a_b mX9_tear) (a_il mX9_tear) = true := by decide +kernel
theorem cIX9_draw : a_ckI (a_b mX9_draw) (a_il mX9_draw) = true := by decide +kernel
theorem cIX9_rain : a_ckI (a_b mX9_rain) (a_il mX9_rain) = true := by decide +kernel
theorem cIX9_onMany : a_ckI (a_b mX9_onMany) (a_il mX9_onMany) = true := by decide +kernel
theorem cIX9_owner : a_ckI (a_b mX9_owner) (a_il mX9_owner) = true := by decide +kernel
theorem cIX9_show : a_ckI (a_b mX9_show) (a_il mX9_show) = true := by decide +kernel
theorem cIX9_look : a_ckI (a_b mX9_look) (a_il mX9_look) = true := by decide +kernel
theorem cIX9_burn : a_ckI (a_b mX9_burn) (a_il mX9_burn) = true := by decide +kernel
theorem cIX9_hasCell : a_ckI (a_b mX9_hasCell) (a_il mX9_hasCell) = true := by decide +kernel
theorem cIX9_findBelow_0 : a_ckI (a_b mX9_findBelow) ((a_il mX9_findBelow).take 40) = true := by decide +kernel
theorem cIX9_findBelow_1 : a_ckI (a_b mX9_findBelow) ((a_il mX9_findBelow).drop 40) = true := by decide +kernel
theorem cIX9_findBelow : a_ckI (a_b mX9_findBelow) (a_il mX9_findBelow) = true := a_ck_cut 40 cIX9_findBelow_0 (cIX9_findBelow_1)
theorem cIX9_ordersOf_0 : a_ckI (a_b mX9_ordersOf) ((a_il mX9_ordersOf).take 40) = true := by decide +kernel
theorem cIX9_ordersOf_1 : a_ckI (a_b mX9_ordersOf) ((a_il mX9_ordersOf).drop 40) = true := by decide +kernel
theorem cIX9_ordersOf : a_ckI (a_b mX9_ordersOf) (a_il mX9_ordersOf) = true := a_ck_cut 40 cIX9_ordersOf_0 (cIX9_ordersOf_1)
theorem cIX9_orders : a_ckI (a_b mX9_orders) (a_il mX9_orders) = true := by decide +kernel
theorem cIX9_order : a_ckI (a_b mX9_order) (a_il mX9_order) = true := by decide +kernel
theorem cIX9_surely_0 : a_ckI (a_b mX9_surely) ((a_il mX9_surely).take 40) = true := by decide +kernel
theorem cIX9_surely_1 : a_ckI (a_b mX9_surely) ((a_il mX9_surely).drop 40) = true := by decide +kernel
theorem cIX9_surely : a_ckI (a_b mX9_surely) (a_il mX9_surely) = true := a_ck_cut 40 cIX9_surely_0 (cIX9_surely_1)
theorem cIX9_undo : a_ckI (a_b mX9_undo) (a_il mX9_undo) = true := by decide +kernel
theorem cIX9_isPlace : a_ckI (a_b mX9_isPlace) (a_il mX9_isPlace) = true := by decide +kernel
theorem cIX9_findBest_0 : a_ckI (a_b mX9_findBest) ((a_il mX9_findBest).take 40) = true := by decide +kernel
theorem cIX9_findBest_1 : a_ckI (a_b mX9_findBest) ((a_il mX9_findBest).drop 40) = true := by decide +kernel
theorem cIX9_findBest : a_ckI (a_b mX9_findBest) (a_il mX9_findBest) = true := a_ck_cut 40 cIX9_findBest_0 (cIX9_findBest_1)
theorem cIX9_best_0 : a_ckI (a_b mX9_best) ((a_il mX9_best).take 40) = true := by decide +kernel
theorem cIX9_best_1 : a_ckI (a_b mX9_best) ((a_il mX9_best).drop 40) = true := by decide +kernel
theorem cIX9_best : a_ckI (a_b mX9_best) (a_il mX9_best) = true := a_ck_cut 40 cIX9_best_0 (cIX9_best_1)
theorem cIX9_two_0 : a_ckI (a_b mX9_two) ((a_il mX9_two).take 40) = true := by decide +kernel
theorem cIX9_two_1 : a_ckI (a_b mX9_two) (((a_il mX9_two).drop 40).take 40) = true := by decide +kernel
theorem cIX9_two_2 : a_ckI (a_b mX9_two) ((((a_il mX9_two).drop 40).drop 40).take 40) = true := by decide +kernel
theorem cIX9_two_3 : a_ckI (a_b mX9_two) ((((a_il mX9_two).drop 40).drop 40).drop 40) = true := by decide +kernel
theorem cIX9_two : a_ckI (a_b mX9_two) (a_il mX9_two) = true := a_ck_cut 40 cIX9_two_0 (a_ck_cut 40 cIX9_two_1 (a_ck_cut 40 cIX9_two_2 (cIX9_two_3)))
theorem cIX9_takeTurn : a_ckI (a_b mX9_takeTurn) (a_il mX9_takeTurn) = true := by decide +kernel
theorem cIX9_rivals_0 : a_ckI (a_b mX9_rivals) ((a_il mX9_rivals).take 40) = true := by decide +kernel
theorem cIX9_rivals_1 : a_ckI (a_b mX9_rivals) ((a_il mX9_rivals).drop 40) = true := by decide +kernel
theorem cIX9_rivals : a_ckI (a_b mX9_rivals) (a_il mX9_rivals) = true := a_ck_cut 40 cIX9_rivals_0 (cIX9_rivals_1)
theorem cIX9_seed : a_ckI (a_b mX9_seed) (a_il mX9_seed) = true := by decide +kernel
theorem cIX9_keep : a_ckI (a_b mX9_keep) (a_il mX9_keep) = true := by decide +kernel
theorem cIX9_goBack : a_ckI (a_b mX9_goBack) (a_il mX9_goBack) = true := by decide +kernel
theorem cIJ6_numberOfLeadingZeros_0f7a4 : a_ckI (a_b mJ6_numberOfLeadingZeros_0f7a4) (a_il mJ6_numberOfLeadingZeros_0f7a4) = true := by decide +kernel
theorem cIJ6_bitCount_0f7a4 : a_ckI (a_b mJ6_bitCount_0f7a4) (a_il mJ6_bitCount_0f7a4) = true := by decide +kernel
theorem cIJ7_fill_53178 : a_ckI (a_b mJ7_fill_53178) (a_il mJ7_fill_53178) = true := by decide +kernel
theorem cIL_law_0 : a_ckI (a_b mL_law) ((a_il mL_law).take 40) = true := by decide +kernel
theorem cIL_law_1 : a_ckI (a_b mL_law) (((a_il mL_law).drop 40).take 40) = true := by decide +kernel
theorem cIL_law_2 : a_ckI (a_b mL_law) ((((a_il mL_law).drop 40).drop 40).take 40) = true := by decide +kernel
theorem cIL_law_3 : a_ckI (a_b mL_law) (((((a_il mL_law).drop 40).drop 40).drop 40).take 40) = true := by decide +kernel
theorem cIL_law_4 : a_ckI (a_b mL_law) ((((((a_il mL_law).drop 40).drop 40).drop 40).drop 40).take 40) = true := by decide +kernel
theorem cIL_law_5 : a_ckI (a_b mL_law) (((((((a_il mL_law).drop 40).drop 40).drop 40).drop 40).drop 40).take 40) = true := by decide +kernel
theorem cIL_law_6 : a_ckI (a_b mL_law) ((((((((a_il mL_law).drop 40).drop 40).drop 40).drop 40).drop 40).drop 40).take 40) = true := by decide +kernel
theorem cIL_law_7 : a_ckI (a_b mL_law) (((((((((a_il mL_law).drop 40).drop 40).drop 40).drop 40).drop 40).drop 40).drop 40).take 40) = true := by decide +kernel
theorem cIL_law_8 : a_ckI (a_b mL_law) ((((((((((a_il mL_law).drop 40).drop 40).drop 40).drop 40).drop 40).drop 40).drop 40).drop 40).take 40) = true := by decide +kernel
theorem cIL_law_9 : a_ckI (a_b mL_law) (((((((((((a_il mL_law).drop 40).drop 40).drop 40).drop 40).drop 40).drop 40).drop 40).drop 40).drop 40).take 40) = true := by decide +kernel
theorem cIL_law_10 : a_ckI (a_b mL_law) ((((((((((((a_il mL_law).drop 40).drop 40).drop 40).drop 40).drop 40).drop 40).drop 40).drop 40).drop 40).drop 40).take 40) = true := by decide +kernel
theorem cIL_law_11 : a_ckI (a_b mL_law) (((((((((((((a_il mL_law).drop 40).drop 40).drop 40).drop 40).drop 40).drop 40).drop 40).drop 40).drop 40).drop 40).drop 40).take 40) = true := by decide +kernel
theorem cIL_law_12 : a_ckI (a_b mL_law) ((((((((((((((a_il mL_law).drop 40).drop 40).drop 40).drop 40).drop 40).drop 40).drop 40).drop 40).drop 40).drop 40).drop 40).drop 40).take 40) = true := by decide +kernel
theorem cIL_law_13 : a_ckI (a_b mL_law) (((((((((((((((a_il mL_law).drop 40).drop 40).drop 40).drop 40).drop 40).drop 40).drop 40).drop 40).drop 40).drop 40).drop 40).drop 40).drop 40).take 40) = true := by decide +kernel
theorem cIL_law_14 : a_ckI (a_b mL_law) ((((((((((((((((a_il mL_law).drop 40).drop 40).drop 40).drop 40).drop 40).drop 40).drop 40).drop 40).drop 40).drop 40).drop 40).drop 40).drop 40).drop 40).take 40) = true := by decide +kernel
theorem cIL_law_15 : a_ckI (a_b mL_law) (((((((((((((((((a_il mL_law).drop 40).drop 40).drop 40).drop 40).drop 40).drop 40).drop 40).drop 40).drop 40).drop 40).drop 40).drop 40).drop 40).drop 40).drop 40).take 40) = true := by decide +kernel
theorem cIL_law_16 : a_ckI (a_b mL_law) ((((((((((((((((((a_il mL_law).drop 40).drop 40).drop 40).drop 40).drop 40).drop 40).drop 40).drop 40).drop 40).drop 40).drop 40).drop 40).drop 40).drop 40).drop 40).drop 40).take 40) = true := by decide +kernel
theorem cIL_law_17 : a_ckI (a_b mL_law) ((((((((((((((((((a_il mL_law).drop 40).drop 40).drop 40).drop 40).drop 40).drop 40).drop 40).drop 40).drop 40).drop 40).drop 40).drop 40).drop 40).drop 40).drop 40).drop 40).drop 40) = true := by decide +kernel
theorem cIL_law : a_ckI (a_b mL_law) (a_il mL_law) = true := a_ck_cut 40 cIL_law_0 (a_ck_cut 40 cIL_law_1 (a_ck_cut 40 cIL_law_2 (a_ck_cut 40 cIL_law_3 (a_ck_cut 40 cIL_law_4 (a_ck_cut 40 cIL_law_5 (a_ck_cut 40 cIL_law_6 (a_ck_cut 40 cIL_law_7 (a_ck_cut 40 cIL_law_8 (a_ck_cut 40 cIL_law_9 (a_ck_cut 40 cIL_law_10 (a_ck_cut 40 cIL_law_11 (a_ck_cut 40 cIL_law_12 (a_ck_cut 40 cIL_law_13 (a_ck_cut 40 cIL_law_14 (a_ck_cut 40 cIL_law_15 (a_ck_cut 40 cIL_law_16 (cIL_law_17)))))))))))))))))
end
section
/-! A SMALL MACHINE over a shape (which cells there are, what their references are) and whole numbers (what their int places hold). Its runs are runs of the class (part 05). -/
def a_look {α : Type} : List (Nat × α) → Nat → Option α
  | [], _ => none
  | (j, x) :: r, i => match Nat.beq j i with
    | true => some x
    | false => a_look r i
def a_at (M : a_Mth) (pc : Nat) : Option (Instr × Nat) := a_look (a_il M) pc
/-- a cell: an object (its class, its fields: none an int, some none null, some (some q) the cell q), or a row (0 int, 1 boolean, 2 char; its length) -/
abbrev a_C : Type := (Nat × List (Option (Option Nat))) ⊕ (Nat × Nat)
abbrev a_H : Type := List a_C × (Nat → Nat → Int32)
abbrev a_LV : Type := List (Option Value)
/-- the script: its length, its ints -/
abbrev a_X : Type := Option (Nat × (Nat → Int32))
def a_row (m : Nat → Nat → Int32) (c : Nat) (f : Nat → Int32) : Nat → Nat → Int32 := fun c' => if c' = c then f else m c'
def a_up (m : Nat → Nat → Int32) (c k : Nat) (v : Int32) : Nat → Nat → Int32 := a_row m c (upd (m c) k v)
def a_tgt (pc : Nat) (off : Int) : Option Nat := match (pc : Int) + off with
  | .ofNat t => some t
  | .negSucc _ => none
def a_get (lv : a_LV) (i : Nat) : Option Value := match lv[i]? with
  | some o => o
  | none => none
def a_isL (o : Option Value) : Bool := match o with
  | some (.long _) => true
  | some (.double _) => true
  | _ => false
def a_put (lv : a_LV) (i : Nat) (v : Value) : Option a_LV := match Nat.blt i lv.length with
  | false => none
  | true => match i with
    | 0 => some (lv.set 0 (some v))
    | k + 1 => match a_isL (a_get lv k) with
      | true => none
      | false => some (lv.set (k + 1) (some v))
def a_len (i : Instr) (ln : Nat) : Nat := match i with
  | .bipush _ => 2
  | .iload _ => 2
  | .aload _ => 2
  | .lload _ => 2
  | .istore _ => 2
  | .astore _ => 2
  | .ldc _ => 2
  | .newarray _ => 2
  | .sipush _ => 3
  | .iinc _ _ => 3
  | .ldc_w _ => 3
  | .ldc2_w _ => 3
  | .getfield _ => 3
  | .putfield _ => 3
  | .ifCond _ _ => 3
  | .if_icmp _ _ => 3
  | .goto _ => 3
  | .new _ => 3
  | .invokevirtual _ => 3
  | .invokestatic _ => 3
  | .invokespecial _ => 3
  | .tableswitch _ _ _ _ => ln
  | _ => 1
def a_c1 (c : ClassFile.Cond) (x : Int32) : Bool := match c with
  | .eq => decide (x = 0)
  | .ne => decide (¬ x = 0)
  | .lt => decide (x < 0)
  | .ge => decide (0 ≤ x)
  | .gt => decide (0 < x)
  | .le => decide (x ≤ 0)
def a_c2 (c : ClassFile.Cond) (x y : Int32) : Bool := match c with
  | .eq => decide (x = y)
  | .ne => decide (¬ x = y)
  | .lt => decide (x < y)
  | .ge => decide (y ≤ x)
  | .gt => decide (y < x)
  | .le => decide (x ≤ y)
def a_iv (lv : a_LV) (i : Nat) : Option Int32 := match a_get lv i with
  | some (.int x) => some x
  | _ => none
def a_lgv (lv : a_LV) (i : Nat) : Option Int64 := match a_get lv i with
  | some (.long x) => some x
  | _ => none
def a_rv (lv : a_LV) (i : Nat) : Option Nat := match a_get lv i with
  | some (.ref x) => some x
  | _ => none
/-- two ints on top: what is left of them -/
def a_bin (i : Instr) (x y : Int32) : Option Int32 := match i with
  | .iadd => some (x + y)
  | .isub => some (x - y)
  | .imul => some (x * y)
  | .idiv => if y = 0 then none else some (x / y)
  | .irem => if y = 0 then none else some (x - x / y * y)
  | .iand => some (x &&& y)
  | .ior => some (x ||| y)
  | .ixor => some (x ^^^ y)
  | .ishl => some (x <<< (y &&& 31))
  | .ishr => some (x >>> (y &&& 31))
  | .iushr => some (x.toUInt32 >>> (y.toUInt32 &&& Int32.toUInt32 31)).toInt32
  | _ => none
def a_binL (i : Instr) (x y : Int64) : Option Value := match i with
  | .ladd => some (.long (x + y))
  | .lmul => some (.long (x * y))
  | .lrem => if y = 0 then none else some (.long (x - x / y * y))
  | .land => some (.long (x &&& y))
  | .lor => some (.long (x ||| y))
  | .lcmp => some (.int (lg_cmp x y))
  | _ => none
def a_pure (i : Instr) (pc : Nat) (lv : a_LV) (st : List Value) : Option (Nat × a_LV × List Value) := match i with
  | .iconst n => some (pc + 1, lv, .int (Int32.ofInt n) :: st)
  | .bipush n => some (pc + 2, lv, .int (Int8.ofInt n).toInt32 :: st)
  | .sipush n => some (pc + 3, lv, .int (Int16.ofInt n).toInt32 :: st)
  | .lconst n => some (pc + 1, lv, .long (Int64.ofNat n) :: st)
  | .iload_n k => match a_iv lv k with
    | some x => some (pc + 1, lv, .int x :: st)
    | none => none
  | .iload k => match a_iv lv k with
    | some x => some (pc + 2, lv, .int x :: st)
    | none => none
  | .lload_n k => match a_lgv lv k with
    | some x => some (pc + 1, lv, .long x :: st)
    | none => none
  | .lload k => match a_lgv lv k with
    | some x => some (pc + 2, lv, .long x :: st)
    | none => none
  | .aload_n k => match a_rv lv k with
    | some x => some (pc + 1, lv, .ref x :: st)
    | none => none
  | .aload k => match a_rv lv k with
    | some x => some (pc + 2, lv, .ref x :: st)
    | none => none
  | .istore_n k => match st with
    | .int x :: r => match a_put lv k (.int x) with
      | some lv' => some (pc + 1, lv', r)
      | none => none
    | _ => none
  | .istore k => match st with
    | .int x :: r => match a_put lv k (.int x) with
      | some lv' => some (pc + 2, lv', r)
      | none => none
    | _ => none
  | .astore_n k => match st with
    | .ref x :: r => match a_put lv k (.ref x) with
      | some lv' => some (pc + 1, lv', r)
      | none => none
    | _ => none
  | .iinc k n => match a_iv lv k with
    | some x => match a_put lv k (.int (x + Int32.ofInt n)) with
      | some lv' => some (pc + 3, lv', st)
      | none => none
    | none => none
  | .dup => match st with
    | v :: r => match Nat.beq v.category 1 with
      | true => some (pc + 1, lv, v :: v :: r)
      | false => none
    | _ => none
  | .pop => match st with
    | v :: r => match Nat.beq v.category 1 with
      | true => some (pc + 1, lv, r)
      | false => none
    | _ => none
  | .dup2 => match st with
    | v :: w :: r => match Nat.beq v.category 1, Nat.beq w.category 1 with
      | true, true => some (pc + 1, lv, v :: w :: v :: w :: r)
      | _, _ => none
    | _ => none
  | .i2l => match st with
    | .int x :: r => some (pc + 1, lv, .long x.toInt64 :: r)
    | _ => none
  | .l2i => match st with
    | .long x :: r => some (pc + 1, lv, .int x.toInt32 :: r)
    | _ => none
  | .i2c => match st with
    | .int x :: r => some (pc + 1, lv, .int (x.toUInt32 % 65536).toInt32 :: r)
    | _ => none
  | .lshl => match st with
    | .int y :: .long x :: r => some (pc + 1, lv, .long (x <<< (y.toInt64 &&& 63)) :: r)
    | _ => none
  | .lshr => match st with
    | .int y :: .long x :: r => some (pc + 1, lv, .long (x >>> (y.toInt64 &&& 63)) :: r)
    | _ => none
  | .lushr => match st with
    | .int y :: .long x :: r => some (pc + 1, lv, .long (x.toUInt64 >>> (y.toInt64.toUInt64 &&& Int64.toUInt64 63)).toInt64 :: r)
    | _ => none
  | .ifCond c off => match st with
    | .int x :: r => match a_tgt pc off with
      | some t => some (if a_c1 c x then t else pc + 3, lv, r)
      | none => none
    | _ => none
  | .if_icmp c off => match st with
    | .int y :: .int x :: r => match a_tgt pc off with
      | some t => some (if a_c2 c x y then t else pc + 3, lv, r)
      | none => none
    | _ => none
  | .goto off => match a_tgt pc off with
    | some t => some (t, lv, st)
    | none => none
  | .tableswitch d lo hi offs => match st with
    | .int x :: r => if x.toInt < lo ∨ hi < x.toInt then match a_tgt pc d with
        | some t => some (t, lv, r)
        | none => none
      else match offs[(x.toInt - lo).toNat]? with
        | some off => match a_tgt pc off with
          | some t => some (t, lv, r)
          | none => none
        | none => none
    | _ => none
  | _ => match st with
    | .int y :: .int x :: r => match a_bin i x y with
      | some z => some (pc + 1, lv, .int z :: r)
      | none => none
    | .long y :: .long x :: r => match a_binL i x y with
      | some z => some (pc + 1, lv, z :: r)
      | none => none
    | _ => none
/-- what an int field of such a type may take -/
def a_fit (ty : FieldType) (v : Int32) : Bool := match ty with
  | .int => true
  | .boolean => decide (v = 0) || decide (v = 1)
  | _ => false
def a_isR (ty : FieldType) : Bool := match ty with
  | .object _ => true
  | .array _ => true
  | _ => false
def a_dflt (ci : Nat) : List (Option (Option Nat)) := match a_cl[ci]? with
  | some q => (List.range q.2.2).map (fun k => match a_isR (a_ty ci k) with
    | true => some none
    | false => none)
  | none => []
def a_okv (n : Nat) (v : Value) : Bool := match v with
  | .ref q => Nat.blt q n || Nat.ble 1000 q
  | _ => true
def a_wf (S : List a_C) (lv : a_LV) (st : List Value) : Bool :=
  Nat.blt S.length 900 && st.all (a_okv S.length) && lv.all (fun o => match o with
    | some v => a_okv S.length v
    | none => true) && S.all (fun c => match c with
      | .inl (_, fs) => fs.all (fun f => match f with
        | some (some q) => Nat.blt q S.length || Nat.ble 1000 q
        | _ => true)
      | .inr _ => true)
def a_wt (st : List Value) : Nat := (st.map fun v => v.category).sum
def a_in (i : Int32) (n : Nat) : Bool := !(decide (i < 0) || decide (n ≤ i.toNatClampNeg))
def a_tc (t : ArrayType) : Option Nat := match t with
  | .int => some 0
  | .boolean => some 1
  | .char => some 2
  | _ => none
/-- the strings: their lengths, their signs -/
def a_sl : List Nat := [4, 5, 4, 4, 4, 4, 4]
def a_sc : List (List Int32) := [[115, 105, 122, 101], [103, 117, 97, 114, 100], [102, 105, 110, 101], [114, 101, 97, 100], [98, 97, 114, 101], [112, 97, 115, 115], [107, 105, 110, 100]]
def a_ald (X : a_X) (tc pc : Nat) (lv : a_LV) (st : List Value) (h : a_H) : Option (Nat × a_LV × List Value × a_H) := match st with
  | .int i :: .ref c :: r => match h.1[c]? with
    | some (.inr (t, n)) => match Nat.beq t tc && a_in i n with
      | true => some (pc + 1, lv, .int (h.2 c i.toNatClampNeg) :: r, h)
      | false => none
    | some (.inl _) => none
    | none => match X with
      | some (L, xs) => match Nat.beq c 2000 && Nat.beq tc 0 && a_in i L with
        | true => some (pc + 1, lv, .int (xs i.toNatClampNeg) :: r, h)
        | false => none
      | none => none
  | _ => none
def a_ast (tc pc : Nat) (lv : a_LV) (st : List Value) (h : a_H) : Option (Nat × a_LV × List Value × a_H) := match st with
  | .int x :: .int i :: .ref c :: r => match h.1[c]? with
    | some (.inr (t, n)) => match Nat.beq t tc && a_in i n with
      | true => some (pc + 1, lv, r, (h.1, a_up h.2 c i.toNatClampNeg (match tc with
        | 0 => x
        | 1 => vp_nar .boolean x
        | _ => vp_nar .char x)))
      | false => none
    | _ => none
  | _ => none
def a_getf (cn idx pc : Nat) (lv : a_LV) (st : List Value) (h : a_H) : Option (Nat × a_LV × List Value × a_H) := match st with
  | .ref c :: r => match a_look (a_fldT cn) idx with
    | some (ci, k, _) => match h.1[c]? with
      | some (.inl (cj, fs)) => match Nat.beq cj ci with
        | true => match fs[k]? with
          | some none => some (pc + 3, lv, .int (h.2 c k) :: r, h)
          | some (some (some q)) => some (pc + 3, lv, .ref q :: r, h)
          | _ => none
        | false => none
      | _ => none
    | none => none
  | _ => none
def a_putf (M : a_Mth) (idx pc : Nat) (lv : a_LV) (st : List Value) (h : a_H) : Option (Nat × a_LV × List Value × a_H) := match st with
  | .int v :: .ref c :: r => match a_look (a_fldT (a_cn M)) idx with
    | some (ci, k, _) => match h.1[c]? with
      | some (.inl (cj, fs)) => match Nat.beq cj ci, fs[k]? with
        | true, some none => match a_fit (a_ty ci k) v with
          | true => some (pc + 3, lv, r, (h.1, a_up h.2 c k v))
          | false => none
        | _, _ => none
      | _ => none
    | none => none
  | .ref q :: .ref c :: r => match a_look (a_fldT (a_cn M)) idx with
    | some (ci, k, ns, _) => match h.1[c]? with
      | some (.inl (cj, fs)) => match Nat.beq cj ci, fs[k]? with
        | true, some (some _) => match Nat.beq ns 0 && Nat.beq (a_cn M) ci && a_isR (a_ty ci k) && decide ((a_y M).name = "<init>") with
          | true => some (pc + 3, lv, r, (h.1.set c (.inl (cj, fs.set k (some (some q)))), h.2))
          | false => none
        | _, _ => none
      | _ => none
    | none => none
  | _ => none
def a_acopy (M : a_Mth) (pc : Nat) (lv : a_LV) (st : List Value) (h : a_H) : Option (Nat × a_LV × List Value × a_H) := match st with
  | .int n :: .int dp :: .ref d :: .int sp :: .ref c :: r => match h.1[c]?, h.1[d]? with
    | some (.inr (0, n0)), some (.inr (0, n1)) =>
      match decide (¬ sp < 0) && decide (¬ dp < 0) && decide (¬ n < 0) && Nat.ble (sp.toNatClampNeg + n.toNatClampNeg) n0 && Nat.ble (dp.toNatClampNeg + n.toNatClampNeg) n1 && Nat.ble (a_wt r) 8 && Nat.ble 1 (a_fr M) && Nat.ble 26 (a_lo M) with
      | true => some (pc + 3, lv, r, (h.1, a_row h.2 d (va_cpy (h.2 c) (h.2 d) sp.toNatClampNeg dp.toNatClampNeg n.toNatClampNeg)))
      | false => none
    | _, _ => none
  | _ => none
/-- a string's length, its sign at a place -/
def a_str (M : a_Mth) (kind pc : Nat) (lv : a_LV) (st : List Value) (h : a_H) : Option (Nat × a_LV × List Value × a_H) := match kind, st with
  | 8, .ref c :: r => match Nat.ble 1000 c && Nat.blt c 1007 && Nat.ble (a_wt r) 8 && Nat.ble 3 (a_fr M) && Nat.ble 60 (a_lo M) with
    | true => some (pc + 3, lv, .int (nI (a_sl.getD (c - 1000) 0)) :: r, h)
    | false => none
  | 9, .int i :: .ref c :: r => match Nat.ble 1000 c && Nat.blt c 1007 && Nat.ble (a_wt r) 8 && a_in i (a_sl.getD (c - 1000) 0) && Nat.ble 5 (a_fr M) && Nat.ble 121 (a_lo M) with
    | true => some (pc + 3, lv, .int ((a_sc.getD (c - 1000) []).getD i.toNatClampNeg 0) :: r, h)
    | false => none
  | _, _ => none
def a_heap (X : a_X) (M : a_Mth) (i : Instr) (pc : Nat) (lv : a_LV) (st : List Value) (h : a_H) : Option (Nat × a_LV × List Value × a_H) := match i with
  | .getfield idx => a_getf (a_cn M) idx pc lv st h
  | .putfield idx => a_putf M idx pc lv st h
  | .iaload => a_ald X 0 pc lv st h
  | .baload => a_ald X 1 pc lv st h
  | .caload => a_ald X 2 pc lv st h
  | .iastore => a_ast 0 pc lv st h
  | .bastore => a_ast 1 pc lv st h
  | .castore => a_ast 2 pc lv st h
  | .arraylength => match st with
    | .ref c :: r => match h.1[c]? with
      | some (.inr (t, n)) => match Nat.blt t 3 with
        | true => some (pc + 1, lv, .int (Int32.ofNat n) :: r, h)
        | false => none
      | some (.inl _) => none
      | none => match X with
        | some (L, _) => match Nat.beq c 2000 with
          | true => some (pc + 1, lv, .int (Int32.ofNat L) :: r, h)
          | false => none
        | none => none
    | _ => none
  | .newarray t => match st, a_tc t with
    | .int n :: r, some tc => match decide (¬ n < 0) && Nat.ble n.toNatClampNeg 100000 && a_wf h.1 lv r with
      | true => some (pc + 2, lv, .ref h.1.length :: r, (h.1 ++ [.inr (tc, n.toNatClampNeg)], a_row h.2 h.1.length (fun _ => 0)))
      | false => none
    | _, _ => none
  | .new idx => match a_look (a_newT (a_cn M)) idx with
    | some (ci, _) => match Nat.blt ci 10 && a_wf h.1 lv st with
      | true => some (pc + 3, lv, .ref h.1.length :: st, (h.1 ++ [.inl (ci, a_dflt ci)], a_row h.2 h.1.length (fun _ => 0)))
      | false => none
    | none => none
  | .ldc idx => match a_look (a_ldcT (a_cn M)) idx with
    | some (.inl v, _) => some (pc + 2, lv, .int v :: st, h)
    | some (.inr (k, _), _) => some (pc + 2, lv, .ref (1000 + k) :: st, h)
    | none => none
  | .ldc_w idx => match a_look (a_ldcT (a_cn M)) idx with
    | some (.inl v, _) => some (pc + 3, lv, .int v :: st, h)
    | _ => none
  | .ldc2_w idx => match a_look (a_ldc2T (a_cn M)) idx with
    | some (v, _) => some (pc + 3, lv, .long v :: st, h)
    | none => none
  | .invokespecial idx => match a_look (a_calT (a_cn M)) idx, st with
    | some (6, _), .ref _ :: r => match Nat.ble (a_wt r) 8 && Nat.ble 1 (a_fr M) && Nat.ble 20 (a_lo M) with
      | true => some (pc + 3, lv, r, h)
      | false => none
    | _, _ => none
  | .invokestatic idx => match a_look (a_calT (a_cn M)) idx with
    | some (7, _) => a_acopy M pc lv st h
    | _ => none
  | .invokevirtual idx => match a_look (a_calT (a_cn M)) idx with
    | some (kind, _) => a_str M kind pc lv st h
    | none => none
  | _ => none
def a_ent : List Value → a_LV
  | [] => []
  | v :: r => match Nat.beq v.category 2 with
    | true => some v :: none :: a_ent r
    | false => some v :: a_ent r
def a_loc (M : a_Mth) (as : List Value) : a_LV := a_ent as ++ List.replicate (a_mL M - (a_ent as).length) none
/-- room for the callee; the rest of the stack is small -/
def a_rooms (M M' : a_Mth) (as rest : List Value) : Bool := Nat.ble (a_fr M' + 1) (a_fr M) && Nat.ble (8 + (a_mL M' + 11) + a_lo M') (a_lo M) && Nat.ble (a_wt rest) 8 && Nat.ble (a_ent as).length (a_mL M')
def a_call (M : a_Mth) (i : Instr) (st : List Value) (S : List a_C) : Option (a_Mth × List Value × List Value) := match i with
  | .invokevirtual idx => match a_look (a_calT (a_cn M)) idx with
    | some (0, k, na, _) => match a_M k, st.drop na with
      | some M', .ref c :: rest => match S[c]? with
        | some (.inl (ci, _)) => match Nat.beq ci (a_cn M') && a_rooms M M' (.ref c :: (st.take na).reverse) rest with
          | true => some (M', .ref c :: (st.take na).reverse, rest)
          | false => none
        | _ => none
      | _, _ => none
    | _ => none
  | .invokestatic idx => match a_look (a_calT (a_cn M)) idx with
    | some (kind, k, na, _) => match Nat.beq kind 1 || Nat.beq kind 2 with
      | true => match a_M k with
        | some M' => match Nat.beq (st.take na).length na && a_rooms M M' (st.take na).reverse (st.drop na) with
          | true => some (M', (st.take na).reverse, st.drop na)
          | false => none
        | none => none
      | false => none
    | none => none
  | .invokespecial idx => match a_look (a_calT (a_cn M)) idx with
    | some (kind, k, na, _) => match Nat.beq kind 3 || Nat.beq kind 4 with
      | true => match a_M k, st.drop na with
        | some M', .ref c :: rest => match a_rooms M M' (.ref c :: (st.take na).reverse) rest with
          | true => some (M', .ref c :: (st.take na).reverse, rest)
          | false => none
        | _, _ => none
      | false => none
    | none => none
  | _ => none
def a_stay (h h' : a_H) (lv : a_LV) (rest : List Value) : Bool := Nat.beq h'.1.length h.1.length || a_wf h.1 lv rest
/-- the machine's run, within n steps -/
def arun (X : a_X) : Nat → a_Mth → Nat → a_LV → List Value → a_H → Option (Option Value × a_H)
  | 0, _, _, _, _, _ => none
  | n + 1, M, pc, lv, st, h => match a_at M pc with
    | none => none
    | some (i, ln) => match Nat.beq ln (a_len i ln) with
      | false => none
      | true => match i with
        | .ireturn => match st, a_rt M with
          | [.int v], some ty => match a_fit ty v with
            | true => some (some (.int v), h)
            | false => none
          | _, _ => none
        | .return_ => match st, a_rt M with
          | [], none => some (none, h)
          | _, _ => none
        | .areturn => match st, a_rt M with
          | [.ref q], some (.object _) => some (some (.ref q), h)
          | _, _ => none
        | i => match a_call M i st h.1 with
          | some (M', as, rest) => match arun X n M' 0 (a_loc M' as) [] h with
            | none => none
            | some (r, h') => match a_stay h h' lv rest with
              | true => arun X n M (pc + 3) lv (r.toList ++ rest) h'
              | false => none
          | none => match a_pure i pc lv st with
            | some (pc', lv', st') => arun X n M pc' lv' st' h
            | none => match a_heap X M i pc lv st h with
              | some (pc', lv', st', h') => arun X n M pc' lv' st' h'
              | none => none
/-- a test: both are made -/
def a_t0 : Option (Option Value × a_H) := arun none 3000 mX8_init 0 (a_loc mX8_init [.ref 0]) [] ([.inl (8, a_dflt 8)], fun _ _ => 0)
theorem a_t0_len : (a_t0.map fun x => x.2.1.length) = some 77 := by decide +kernel
end
section
/-! the tables of part 02 hold against the Statement's own words and code -/
def a_LT : List Cond := lw_tbl.filter goodWord
def a_tb (p : Nat × Nat) : Option Cond := match p.1 with
  | 1 => tables_1_1[p.2]?
  | 2 => tables_1_2[p.2]?
  | 3 => tables_1_3[p.2]?
  | 4 => tables_1_4[p.2]?
  | 5 => tables_1_5[p.2]?
  | 6 => tables_1_6[p.2]?
  | 7 => (k2_sels lw_privs_1)[p.2]?
  | 8 => (k2_sels lw_privs_2)[p.2]?
  | 9 => (k2_sels lw_privs_3)[p.2]?
  | 10 => (k2_sels lw_privs_4)[p.2]?
  | 11 => (k2_sels lw_privs_5)[p.2]?
  | _ => none
theorem a_sels_app (a b : List (MethodName × Nat)) : k2_sels (a ++ b) = k2_sels a ++ k2_sels b := by simp [k2_sels]
theorem a_tb_in {p : Nat × Nat} {w : Cond} (h : a_tb p = some w) : w ∈ lw_tbl := by
  have hT : ∀ l : List Cond, l[p.2]? = some w → w ∈ l := fun l q => List.mem_of_getElem? q
  unfold lw_tbl
  rw [lw_privs, tables_1, a_sels_app, a_sels_app, a_sels_app, a_sels_app]
  simp only [List.mem_append]
  unfold a_tb at h
  split at h
  · exact Or.inr (Or.inl (hT _ h))
  · exact Or.inr (Or.inr (Or.inl (hT _ h)))
  · exact Or.inr (Or.inr (Or.inr (Or.inl (hT _ h))))
  · exact Or.inr (Or.inr (Or.inr (Or.inr (Or.inl (hT _ h)))))
  · exact Or.inr (Or.inr (Or.inr (Or.inr (Or.inr (Or.inl (hT _ h))))))
  · exact Or.inr (Or.inr (Or.inr (Or.inr (Or.inr (Or.inr (hT _ h))))))
  · exact Or.inl (Or.inl (hT _ h))
  · exact Or.inl (Or.inr (Or.inl (hT _ h)))
  · exact Or.inl (Or.inr (Or.inr (Or.inl (hT _ h))))
  · exact Or.inl (Or.inr (Or.inr (Or.inr (Or.inl (hT _ h)))))
  · exact Or.inl (Or.inr (Or.inr (Or.inr (Or.inr (hT _ h)))))
  · cases h
def a_has (p : Nat × Nat) (w : Cond) : Bool := decide (a_tb p = some w) && goodWord w
def a_hasN (p : Nat × Nat) (w : Cond) : Bool := decide (a_tb p = some w)
theorem a_has_in {p : Nat × Nat} {w : Cond} (h : a_has p w = true) : w ∈ a_LT := by
  simp only [a_has, Bool.and_eq_true, decide_eq_true_eq] at h
  exact List.mem_filter.mpr ⟨a_tb_in h.1, h.2⟩
theorem a_hasN_in {p : Nat × Nat} {w : Cond} (h : a_hasN p w = true) : w ∈ lw_tbl := by
  simp only [a_hasN, decide_eq_true_eq] at h
  exact a_tb_in h
theorem a_LT_good {w : Cond} (h : w ∈ a_LT) : goodWord w = true := (List.mem_filter.mp h).2
theorem a_LT_tbl {w : Cond} (h : w ∈ a_LT) : w ∈ lw_tbl := (List.mem_filter.mp h).1
theorem a_good {ws : List Cond} (h : ∀ w ∈ ws, w ∈ a_LT) : GoodIn a_LT ws := fun w hw => ⟨h w hw, good_of_word (a_LT_good (h w hw))⟩
/-- what a lookup finds stands in the list -/
theorem a_look_mem {α : Type} {l : List (Nat × α)} {i : Nat} {x : α} (h : a_look l i = some x) : (i, x) ∈ l := by
  induction l with
  | nil => cases h
  | cons q r ih =>
    obtain ⟨j, y⟩ := q
    simp only [a_look] at h
    split at h
    · next e =>
      have e2 := Nat.eq_of_beq_eq_true e
      cases h
      rw [e2]
      exact List.mem_cons_self
    · exact List.mem_cons_of_mem _ (ih h)
def a_par (y : MethodName) (na : Nat) : Bool := decide (y.cls ≠ "java/lang/invoke/MethodHandle") && decide (y.cls ≠ "java/lang/invoke/VarHandle") && decide ((parseMethodDescriptor y.desc).map (fun d => d.parameters.length) = some na)
def a_ckF (cn : Nat) (e : Nat × Nat × Nat × Nat × (Nat × Nat) × String) : Bool := match a_cl[e.2.1]? with
  | some q => Nat.blt e.2.2.1 q.2.2 && (match e.2.2.2.1 with
    | 0 => a_has e.2.2.2.2.1 (.fieldLink (a_Cn cn) e.1 (q.2.1 e.2.2.1).1 (q.2.1 e.2.2.1).2.1 (q.2.1 e.2.2.1).2.2.1)
    | _ => a_hasN e.2.2.2.2.1 (.fieldLinkNest (a_Cn cn) e.1 (q.2.1 e.2.2.1).1 (q.2.1 e.2.2.1).2.1 (q.2.1 e.2.2.1).2.2.1 e.2.2.2.2.2))
  | none => false
def a_ckC1 (cn idx kind : Nat) (M : a_Mth) (na : Nat) (ps : List (Nat × Nat)) (host : String) : Bool := match kind, ps with
  | 0, [p0, p1, p2, p3] => a_has p0 (.methodLink (a_Cn cn) idx (a_y M)) && a_has p1 (.instanceMethod (a_y M)) && a_has p2 (.selects (a_y M).cls (a_y M) (a_y M)) && a_has p3 (.initialized (a_y M).cls) && a_par (a_y M) na && (match a_cl[a_cn M]? with
    | some q => decide (q.1 = (a_y M).cls)
    | none => false)
  | 1, [p0, p1, p2] => a_has p0 (.methodLink (a_Cn cn) idx (a_y M)) && a_has p1 (.static (a_y M)) && a_has p2 (.initialized (a_y M).cls) && a_par (a_y M) na
  | 2, [p0, p1, p2] => a_hasN p0 (.methodLinkNest (a_Cn cn) idx (a_y M) host) && a_has p1 (.static (a_y M)) && a_has p2 (.initialized (a_y M).cls) && a_par (a_y M) na
  | 3, [p0, p1, p2] => a_has p0 (.methodLink (a_Cn cn) idx (a_y M)) && a_has p1 (.instanceMethod (a_y M)) && a_has p2 (.initialized (a_y M).cls) && a_par (a_y M) na && decide ((a_y M).name = "<init>") && decide (a_rt M = none)
  | 4, [p0, p1, p2] => a_hasN p0 (.methodLinkNest (a_Cn cn) idx (a_y M) host) && a_has p1 (.instanceMethod (a_y M)) && a_has p2 (.initialized (a_y M).cls) && a_par (a_y M) na && decide ((a_y M).name = "<init>") && decide (a_rt M = none)
  | _, _ => false
def a_ckC (cn : Nat) (e : Nat × Nat × Nat × Nat × List (Nat × Nat) × String) : Bool := match e.2.1, e.2.2.2.2.1 with
  | 6, [p0, p1, p2] => a_has p0 (.methodLink (a_Cn cn) e.1 objectInit) && a_has p1 (.instanceMethod objectInit) && a_has p2 (.code objectInit ⟨#[0xb1]⟩ 1 none)
  | 7, [p0, p1, p2, p3] => a_has p0 (.methodLink (a_Cn cn) e.1 arraycopyName) && a_has p1 (.native arraycopyName) && a_has p2 (.static arraycopyName) && a_has p3 (.initialized "java/lang/System")
  | 8, _ => decide (cn = 6) && decide (e.1 = 142)
  | 9, _ => decide (cn = 6) && decide (e.1 = 146)
  | _, _ => match a_M e.2.2.1 with
    | some M => a_ckC1 cn e.1 e.2.1 M e.2.2.2.1 e.2.2.2.2.1 e.2.2.2.2.2
    | none => false
def a_ckL (cn : Nat) (e : Nat × (Int32 ⊕ (Nat × String)) × (Nat × Nat)) : Bool := match e.2.1 with
  | .inl v => a_has e.2.2 (.constant (a_Cn cn) e.1 v)
  | .inr q => Nat.blt q.1 7 && decide (a_strs[q.1]? = some q.2) && decide (cn = 6)
def a_ckN (cn : Nat) (e : Nat × Nat × (Nat × Nat) × (Nat × Nat) × (Nat × Nat)) : Bool := match a_cl[e.2.1]? with
  | some q => a_has e.2.2.1 (.classLink (a_Cn cn) e.1 q.1) && a_has e.2.2.2.1 (.instantiable q.1 q.2.2) && a_has e.2.2.2.2 (.initialized q.1)
  | none => false
theorem a_fld_all : ∀ cn, cn < 13 → (a_fldT cn).all (a_ckF cn) = true := by decide +kernel
theorem a_cal_all : ∀ cn, cn < 13 → (a_calT cn).all (a_ckC cn) = true := by decide +kernel
theorem a_ldc_all : ∀ cn, cn < 13 → (a_ldcT cn).all (a_ckL cn) = true := by decide +kernel
theorem a_ldc2_all : ∀ cn, cn < 13 → (a_ldc2T cn).all (fun e => a_has e.2.2 (.constantLong (a_Cn cn) e.1 e.2.1)) = true := by decide +kernel
theorem a_new_all : ∀ cn, cn < 13 → (a_newT cn).all (a_ckN cn) = true := by decide +kernel
theorem a_arr_all : a_has (a_arrP 0) (.arrayClass .int) = true ∧ a_has (a_arrP 1) (.arrayClass .boolean) = true ∧ a_has (a_arrP 2) (.arrayClass .char) = true := by decide +kernel
def a_ckW (M : a_Mth) : Bool := a_has (a_pl M) (.code (a_y M) (a_b M) (a_mL M) (a_rt M)) && plainName (a_y M).cls && decide ((a_y M).cls = a_Cn (a_cn M)) && Nat.blt (a_cn M) 13
def a_okM (M : a_Mth) : Prop := a_ckI (a_b M) (a_il M) = true ∧ a_ckW M = true
theorem a_ok_0 : ∀ M ∈ ([] : List a_Mth), a_okM M := fun _ h => absurd h List.not_mem_nil
theorem a_ok_c {M : a_Mth} {l : List a_Mth} (h : a_okM M) (hl : ∀ M ∈ l, a_okM M) : ∀ N ∈ M :: l, a_okM N := fun _ h2 => (List.mem_cons.mp h2).elim (fun e => e ▸ h) (hl _)
theorem a_okl0 : ∀ M ∈ a_Ml0, a_okM M := (a_ok_c ⟨cIX0_init, by decide +kernel⟩ (a_ok_c ⟨cIX0_takeAllAway, by decide +kernel⟩ (a_ok_c ⟨cIX0_copyFrom, by decide +kernel⟩ (a_ok_c ⟨cIX0_has, by decide +kernel⟩ (a_ok_c ⟨cIX0_isFull, by decide +kernel⟩ (a_ok_c ⟨cIX0_isOn, by decide +kernel⟩ (a_ok_c ⟨cIX0_ownerOf, by decide +kernel⟩ (a_ok_c ⟨cIX0_allCells, by decide +kernel⟩ (a_ok_c ⟨cIX0_right, by decide +kernel⟩ (a_ok_c ⟨cIX0_bottom, by decide +kernel⟩ (a_ok_c ⟨cIX0_topAt, by decide +kernel⟩ (a_ok_c ⟨cIX0_hang, by decide +kernel⟩ (a_ok_c ⟨cIX0_takeOff, by decide +kernel⟩ (a_ok_c ⟨cIX0_undoHang, by decide +kernel⟩ (a_ok_c ⟨cIX0_tearTop, by decide +kernel⟩ (a_ok_c ⟨cIX0_loosen, by decide +kernel⟩ (a_ok_c ⟨cIX0_drawOfHundred, by decide +kernel⟩ (a_ok_c ⟨cIX0_tornCells, by decide +kernel⟩ (a_ok_c ⟨cIX0_hangingOf, by decide +kernel⟩ (a_ok_c ⟨cIX0_coversOf, by decide +kernel⟩ a_ok_0))))))))))))))))))))
theorem a_okl1 : ∀ M ∈ a_Ml1, a_okM M := (a_ok_c ⟨cIX0_toFree, by decide +kernel⟩ (a_ok_c ⟨cIX0_laterThan, by decide +kernel⟩ (a_ok_c ⟨cIX1_init, by decide +kernel⟩ (a_ok_c ⟨cIX2_init, by decide +kernel⟩ (a_ok_c ⟨cIX2_toRead, by decide +kernel⟩ (a_ok_c ⟨cIX2_lookUnder, by decide +kernel⟩ (a_ok_c ⟨cIX2_isLiftable, by decide +kernel⟩ (a_ok_c ⟨cIX2_seenWithout, by decide +kernel⟩ (a_ok_c ⟨cIX3_init, by decide +kernel⟩ (a_ok_c ⟨cIX3_forget, by decide +kernel⟩ (a_ok_c ⟨cIX3_has, by decide +kernel⟩ (a_ok_c ⟨cIX3_add, by decide +kernel⟩ (a_ok_c ⟨cIX3_countOrders, by decide +kernel⟩ (a_ok_c ⟨cIX3_firstOrderAt, by decide +kernel⟩ (a_ok_c ⟨cIX3_liesOver, by decide +kernel⟩ (a_ok_c ⟨cIX3_hasOrder, by decide +kernel⟩ (a_ok_c ⟨cIX3_leastThatCanStand, by decide +kernel⟩ (a_ok_c ⟨cIX3_relate, by decide +kernel⟩ (a_ok_c ⟨cIX4_init, by decide +kernel⟩ (a_ok_c ⟨cIX4_findOne, by decide +kernel⟩ a_ok_0))))))))))))))))))))
theorem a_okl2 : ∀ M ∈ a_Ml2, a_okM M := (a_ok_c ⟨cIX4_findTwo, by decide +kernel⟩ (a_ok_c ⟨cIX4_findSecond, by decide +kernel⟩ (a_ok_c ⟨cIX4_isBetter, by decide +kernel⟩ (a_ok_c ⟨cIX4_compete, by decide +kernel⟩ (a_ok_c ⟨cIX4_takeTurn, by decide +kernel⟩ (a_ok_c ⟨cIX4_worthAtLast, by decide +kernel⟩ (a_ok_c ⟨cIX5_init, by decide +kernel⟩ (a_ok_c ⟨cIX5_untell, by decide +kernel⟩ (a_ok_c ⟨cIX5_copyFrom, by decide +kernel⟩ (a_ok_c ⟨cIX5_addStrip, by decide +kernel⟩ (a_ok_c ⟨cIX5_addKind, by decide +kernel⟩ (a_ok_c ⟨cIX5_hasKind, by decide +kernel⟩ (a_ok_c ⟨cIX5_hasCell, by decide +kernel⟩ (a_ok_c ⟨cIX5_holds, by decide +kernel⟩ (a_ok_c ⟨cIX5_isBarred, by decide +kernel⟩ (a_ok_c ⟨cIX5_canRead, by decide +kernel⟩ (a_ok_c ⟨cIX5_passersOf, by decide +kernel⟩ (a_ok_c ⟨cIX6_init, by decide +kernel⟩ (a_ok_c ⟨cIX6_append, by decide +kernel⟩ (a_ok_c ⟨cIX6_readInto, by decide +kernel⟩ a_ok_0))))))))))))))))))))
theorem a_okl3 : ∀ M ∈ a_Ml3, a_okM M := (a_ok_c ⟨cIX6_isFaultless, by decide +kernel⟩ (a_ok_c ⟨cIX6_fail, by decide +kernel⟩ (a_ok_c ⟨cIX6_readClause, by decide +kernel⟩ (a_ok_c ⟨cIX6_isSizeTooLate, by decide +kernel⟩ (a_ok_c ⟨cIX6_isTold, by decide +kernel⟩ (a_ok_c ⟨cIX6_readNumbers, by decide +kernel⟩ (a_ok_c ⟨cIX6_readStrip, by decide +kernel⟩ (a_ok_c ⟨cIX6_readPassers, by decide +kernel⟩ (a_ok_c ⟨cIX6_readKind, by decide +kernel⟩ (a_ok_c ⟨cIX6_readNumber, by decide +kernel⟩ (a_ok_c ⟨cIX6_readEnd, by decide +kernel⟩ (a_ok_c ⟨cIX6_skipBlanks, by decide +kernel⟩ (a_ok_c ⟨cIX6_readWord, by decide +kernel⟩ (a_ok_c ⟨cIX6_spells, by decide +kernel⟩ (a_ok_c ⟨cIX6_nameOf, by decide +kernel⟩ (a_ok_c ⟨cIX6_isLetter, by decide +kernel⟩ (a_ok_c ⟨cIX6_isFigure, by decide +kernel⟩ (a_ok_c ⟨cIX7_init, by decide +kernel⟩ (a_ok_c ⟨cIX7_lookAt, by decide +kernel⟩ (a_ok_c ⟨cIX7_worthOf, by decide +kernel⟩ a_ok_0))))))))))))))))))))
theorem a_okl4 : ∀ M ∈ a_Ml4, a_okM M := (a_ok_c ⟨cIX7_worthOfOwner, by decide +kernel⟩ (a_ok_c ⟨cIX7_weigh, by decide +kernel⟩ (a_ok_c ⟨cIX7_hide, by decide +kernel⟩ (a_ok_c ⟨cIX7_weighLoss, by decide +kernel⟩ (a_ok_c ⟨cIX8_init, by decide +kernel⟩ (a_ok_c ⟨cIX8_feed, by decide +kernel⟩ (a_ok_c ⟨cIX8_wall, by decide +kernel⟩ (a_ok_c ⟨cIX8_fault, by decide +kernel⟩ (a_ok_c ⟨cIX8_told, by decide +kernel⟩ (a_ok_c ⟨cIX8_kind, by decide +kernel⟩ (a_ok_c ⟨cIX8_passes, by decide +kernel⟩ (a_ok_c ⟨cIX8_bare, by decide +kernel⟩ (a_ok_c ⟨cIX8_paste, by decide +kernel⟩ (a_ok_c ⟨cIX8_days, by decide +kernel⟩ (a_ok_c ⟨cIX8_above, by decide +kernel⟩ (a_ok_c ⟨cIX8_bill, by decide +kernel⟩ (a_ok_c ⟨cIX8_over, by decide +kernel⟩ (a_ok_c ⟨cIX8_free, by decide +kernel⟩ (a_ok_c ⟨cIX8_reveal, by decide +kernel⟩ (a_ok_c ⟨cIX8_peel, by decide +kernel⟩ a_ok_0))))))))))))))))))))
theorem a_okl5 : ∀ M ∈ a_Ml5, a_okM M := (a_ok_c ⟨cIX8_tear, by decide +kernel⟩ (a_ok_c ⟨cIX8_rain, by decide +kernel⟩ (a_ok_c ⟨cIX8_owner, by decide +kernel⟩ (a_ok_c ⟨cIX8_show, by decide +kernel⟩ (a_ok_c ⟨cIX8_look, by decide +kernel⟩ (a_ok_c ⟨cIX8_burn, by decide +kernel⟩ (a_ok_c ⟨cIX8_orders, by decide +kernel⟩ (a_ok_c ⟨cIX8_order, by decide +kernel⟩ (a_ok_c ⟨cIX8_surely, by decide +kernel⟩ (a_ok_c ⟨cIX8_best, by decide +kernel⟩ (a_ok_c ⟨cIX8_two, by decide +kernel⟩ (a_ok_c ⟨cIX8_rivals, by decide +kernel⟩ (a_ok_c ⟨cIX8_seed, by decide +kernel⟩ (a_ok_c ⟨cIX8_keep, by decide +kernel⟩ (a_ok_c ⟨cIX8_goBack, by decide +kernel⟩ (a_ok_c ⟨cIX8_imageOf, by decide +kernel⟩ (a_ok_c ⟨cIX8_isIn, by decide +kernel⟩ (a_ok_c ⟨cIX8_cellAt, by decide +kernel⟩ (a_ok_c ⟨cIX9_init, by decide +kernel⟩ (a_ok_c ⟨cIX9_in, by decide +kernel⟩ a_ok_0))))))))))))))))))))
theorem a_okl6 : ∀ M ∈ a_Ml6, a_okM M := (a_ok_c ⟨cIX9_one, by decide +kernel⟩ (a_ok_c ⟨cIX9_has, by decide +kernel⟩ (a_ok_c ⟨cIX9_ones, by decide +kernel⟩ (a_ok_c ⟨cIX9_untold, by decide +kernel⟩ (a_ok_c ⟨cIX9_feed, by decide +kernel⟩ (a_ok_c ⟨cIX9_here, by decide +kernel⟩ (a_ok_c ⟨cIX9_want, by decide +kernel⟩ (a_ok_c ⟨cIX9_takeWord, by decide +kernel⟩ (a_ok_c ⟨cIX9_isWord, by decide +kernel⟩ (a_ok_c ⟨cIX9_takeNumber, by decide +kernel⟩ (a_ok_c ⟨cIX9_once, by decide +kernel⟩ (a_ok_c ⟨cIX9_takeSize, by decide +kernel⟩ (a_ok_c ⟨cIX9_takeBare, by decide +kernel⟩ (a_ok_c ⟨cIX9_takePass, by decide +kernel⟩ (a_ok_c ⟨cIX9_takeKind, by decide +kernel⟩ (a_ok_c ⟨cIX9_takeClause, by decide +kernel⟩ (a_ok_c ⟨cIX9_wall, by decide +kernel⟩ (a_ok_c ⟨cIX9_fault, by decide +kernel⟩ (a_ok_c ⟨cIX9_told, by decide +kernel⟩ (a_ok_c ⟨cIX9_isKind, by decide +kernel⟩ a_ok_0))))))))))))))))))))
theorem a_okl7 : ∀ M ∈ a_Ml7, a_okM M := (a_ok_c ⟨cIX9_kind, by decide +kernel⟩ (a_ok_c ⟨cIX9_passes, by decide +kernel⟩ (a_ok_c ⟨cIX9_isCell, by decide +kernel⟩ (a_ok_c ⟨cIX9_bare, by decide +kernel⟩ (a_ok_c ⟨cIX9_copy, by decide +kernel⟩ (a_ok_c ⟨cIX9_ownerOf, by decide +kernel⟩ (a_ok_c ⟨cIX9_sizeOf, by decide +kernel⟩ (a_ok_c ⟨cIX9_reaches, by decide +kernel⟩ (a_ok_c ⟨cIX9_isTorn, by decide +kernel⟩ (a_ok_c ⟨cIX9_lies, by decide +kernel⟩ (a_ok_c ⟨cIX9_aboveAt, by decide +kernel⟩ (a_ok_c ⟨cIX9_see, by decide +kernel⟩ (a_ok_c ⟨cIX9_isRead, by decide +kernel⟩ (a_ok_c ⟨cIX9_worthOf, by decide +kernel⟩ (a_ok_c ⟨cIX9_lay, by decide +kernel⟩ (a_ok_c ⟨cIX9_isWithin, by decide +kernel⟩ (a_ok_c ⟨cIX9_isClear, by decide +kernel⟩ (a_ok_c ⟨cIX9_paste, by decide +kernel⟩ (a_ok_c ⟨cIX9_days, by decide +kernel⟩ (a_ok_c ⟨cIX9_above, by decide +kernel⟩ a_ok_0))))))))))))))))))))
theorem a_okl8 : ∀ M ∈ a_Ml8, a_okM M := (a_ok_c ⟨cIX9_isBill, by decide +kernel⟩ (a_ok_c ⟨cIX9_tornMany, by decide +kernel⟩ (a_ok_c ⟨cIX9_bill, by decide +kernel⟩ (a_ok_c ⟨cIX9_overOf, by decide +kernel⟩ (a_ok_c ⟨cIX9_over, by decide +kernel⟩ (a_ok_c ⟨cIX9_freeOf, by decide +kernel⟩ (a_ok_c ⟨cIX9_free, by decide +kernel⟩ (a_ok_c ⟨cIX9_isWhole, by decide +kernel⟩ (a_ok_c ⟨cIX9_isReadWithout, by decide +kernel⟩ (a_ok_c ⟨cIX9_reveal, by decide +kernel⟩ (a_ok_c ⟨cIX9_peel, by decide +kernel⟩ (a_ok_c ⟨cIX9_tearAt, by decide +kernel⟩ (a_ok_c ⟨cIX9_tear, by decide +kernel⟩ (a_ok_c ⟨cIX9_draw, by decide +kernel⟩ (a_ok_c ⟨cIX9_rain, by decide +kernel⟩ (a_ok_c ⟨cIX9_onMany, by decide +kernel⟩ (a_ok_c ⟨cIX9_owner, by decide +kernel⟩ (a_ok_c ⟨cIX9_show, by decide +kernel⟩ (a_ok_c ⟨cIX9_look, by decide +kernel⟩ (a_ok_c ⟨cIX9_burn, by decide +kernel⟩ a_ok_0))))))))))))))))))))
theorem a_okl9 : ∀ M ∈ a_Ml9, a_okM M := (a_ok_c ⟨cIX9_hasCell, by decide +kernel⟩ (a_ok_c ⟨cIX9_findBelow, by decide +kernel⟩ (a_ok_c ⟨cIX9_ordersOf, by decide +kernel⟩ (a_ok_c ⟨cIX9_orders, by decide +kernel⟩ (a_ok_c ⟨cIX9_order, by decide +kernel⟩ (a_ok_c ⟨cIX9_surely, by decide +kernel⟩ (a_ok_c ⟨cIX9_undo, by decide +kernel⟩ (a_ok_c ⟨cIX9_isPlace, by decide +kernel⟩ (a_ok_c ⟨cIX9_findBest, by decide +kernel⟩ (a_ok_c ⟨cIX9_best, by decide +kernel⟩ (a_ok_c ⟨cIX9_two, by decide +kernel⟩ (a_ok_c ⟨cIX9_takeTurn, by decide +kernel⟩ (a_ok_c ⟨cIX9_rivals, by decide +kernel⟩ (a_ok_c ⟨cIX9_seed, by decide +kernel⟩ (a_ok_c ⟨cIX9_keep, by decide +kernel⟩ (a_ok_c ⟨cIX9_goBack, by decide +kernel⟩ (a_ok_c ⟨cIJ6_numberOfLeadingZeros_0f7a4, by decide +kernel⟩ (a_ok_c ⟨cIJ6_bitCount_0f7a4, by decide +kernel⟩ (a_ok_c ⟨cIJ7_fill_53178, by decide +kernel⟩ a_ok_0)))))))))))))))))))
theorem a_M_ok {k : Nat} {M : a_Mth} (h : a_M k = some M) : a_okM M := by
  have hT : ∀ l : List a_Mth, (∀ N ∈ l, a_okM N) → l[k % 20]? = some M → a_okM M := fun l q z => q M (List.mem_of_getElem? z)
  unfold a_M at h
  split at h
  · exact hT _ a_okl0 h
  · exact hT _ a_okl1 h
  · exact hT _ a_okl2 h
  · exact hT _ a_okl3 h
  · exact hT _ a_okl4 h
  · exact hT _ a_okl5 h
  · exact hT _ a_okl6 h
  · exact hT _ a_okl7 h
  · exact hT _ a_okl8 h
  · exact hT _ a_okl9 h
  · cases h
end
section
/-! the small machine's steps without cells are steps of the machine -/
def a_cv (ad : Nat → Nat) (v : Value) : Value := match v with
  | .ref q => .ref (ad q)
  | v => v
theorem a_cv_cat (ad : Nat → Nat) (v : Value) : (a_cv ad v).category = v.category := by cases v <;> rfl
theorem a_cv_wt (ad : Nat → Nat) (st : List Value) : ((st.map (a_cv ad)).map fun v => v.category).sum = a_wt st := by
  unfold a_wt
  rw [List.map_map]
  congr 1
  apply List.map_congr_left
  intro v _
  exact a_cv_cat ad v
/-- the locals -/
def a_L (ad : Nat → Nat) (ls : Array Slot) (nL : Nat) (lv : a_LV) : Prop := ls.size = nL ∧ lv_wf ls ∧ lv.length = nL ∧ ∀ (i : Nat) (v : Value), a_get lv i = some v → ls[i]? = some (.val (a_cv ad v))
def a_la (ad : Nat → Nat) (lv : a_LV) : List (Nat × Value) := (List.range lv.length).filterMap (fun i => (a_get lv i).map (fun v => (i, a_cv ad v)))
theorem a_get_lt {lv : a_LV} {i : Nat} {v : Value} (h : a_get lv i = some v) : i < lv.length := by
  unfold a_get at h
  cases e : lv[i]? with
  | none => rw [e] at h; cases h
  | some o => exact (List.getElem?_eq_some_iff.mp e).1
theorem a_la_in {ad : Nat → Nat} {lv : a_LV} {i : Nat} {v : Value} (h : a_get lv i = some v) : (i, a_cv ad v) ∈ a_la ad lv :=
  List.mem_filterMap.mpr ⟨i, List.mem_range.mpr (a_get_lt h), by rw [h]; rfl⟩
theorem a_la_has {ad : Nat → Nat} {ls : Array Slot} {nL : Nat} {lv : a_LV} (h : a_L ad ls nL lv) : lv_has ls nL (a_la ad lv) := by
  refine ⟨h.1, h.2.1, fun q hq => ?_⟩
  obtain ⟨i, -, hi⟩ := List.mem_filterMap.mp hq
  cases e : a_get lv i with
  | none => rw [e] at hi; cases hi
  | some v =>
    rw [e] at hi
    cases hi
    exact h.2.2.2 i v e
theorem a_get_set {lv : a_LV} {i j : Nat} {v w : Value} (h : a_get (lv.set i (some v)) j = some w) : (j = i ∧ w = v) ∨ (j ≠ i ∧ a_get lv j = some w) := by
  unfold a_get at h ⊢
  rw [List.getElem?_set] at h
  by_cases e : i = j
  · subst e
    simp only [if_pos rfl] at h
    by_cases hl : i < lv.length
    · rw [if_pos hl] at h
      cases h
      exact Or.inl ⟨rfl, rfl⟩
    · rw [if_neg hl] at h
      cases h
  · rw [if_neg e] at h
    exact Or.inr ⟨fun q => e q.symm, h⟩
theorem a_put_ok {ad : Nat → Nat} {ls : Array Slot} {nL : Nat} {lv lv' : a_LV} {i : Nat} {v : Value} (h : a_L ad ls nL lv) (hp : a_put lv i v = some lv') :
    i < nL ∧ ∀ ls' : Array Slot, lv_has ls' nL ((i, a_cv ad v) :: (a_la ad lv).filter (fun q => !(q.1 == i) && !(q.1 + 1 == i && q.2.category == 2))) → a_L ad ls' nL lv' := by
  have h0 : i < lv.length ∧ lv' = lv.set i (some v) ∧ ∀ k, k + 1 = i → a_isL (a_get lv k) = false := by
    unfold a_put at hp
    split at hp
    · cases hp
    · next e =>
      have hlt : i < lv.length := by simpa using e
      split at hp
      · cases hp
        exact ⟨hlt, rfl, fun k hk => by omega⟩
      · next k =>
        split at hp
        · cases hp
        · next e2 =>
          cases hp
          exact ⟨hlt, rfl, fun k2 hk => by have : k2 = k := by omega
                                           rw [this]; exact e2⟩
  obtain ⟨hlt, rfl, hk⟩ := h0
  refine ⟨by rw [← h.2.2.1]; exact hlt, fun ls' h' => ⟨h'.1, h'.2.1, by rw [List.length_set]; exact h.2.2.1, fun j w hw => ?_⟩⟩
  rcases a_get_set hw with ⟨rfl, rfl⟩ | ⟨hne, hw⟩
  · exact h'.2.2 _ List.mem_cons_self
  · refine h'.2.2 (j, a_cv ad w) (List.mem_cons_of_mem _ (List.mem_filter.mpr ⟨a_la_in hw, ?_⟩))
    have h1 : (j == i) = false := by simpa using hne
    have h2 : (j + 1 == i && (a_cv ad w).category == 2) = false := by
      by_cases e : j + 1 = i
      · have := hk j e
        rw [hw] at this
        cases w <;> simp_all [a_isL, a_cv, Value.category]
      · simp [e]
    simp [h1, h2]
theorem a_iv_get {lv : a_LV} {i : Nat} {x : Int32} (h : a_iv lv i = some x) : a_get lv i = some (.int x) := by
  unfold a_iv at h
  split at h
  · next e => cases h; exact e
  · cases h
theorem a_lgv_get {lv : a_LV} {i : Nat} {x : Int64} (h : a_lgv lv i = some x) : a_get lv i = some (.long x) := by
  unfold a_lgv at h
  split at h
  · next e => cases h; exact e
  · cases h
theorem a_rv_get {lv : a_LV} {i : Nat} {x : Nat} (h : a_rv lv i = some x) : a_get lv i = some (.ref x) := by
  unfold a_rv at h
  split at h
  · next e => cases h; exact e
  · cases h
theorem a_tgt_eq {pc t : Nat} {off : Int} (h : a_tgt pc off = some t) : (pc : Int) + off = (t : Int) := by
  unfold a_tgt at h
  split at h
  · next e => cases h; exact e
  · cases h
section APURE
variable {p : Program} {l : Launch} {e : Env} {R : Room} {s : State} {m : MethodId} {args : Array Value} {below : List Frame} {meth : Method} {c : Code} {H : Heap} {locs : List Loc} {cells slots : Nat} {Q : State → Prop}
variable {cc : ByteArray} {pc : Nat} {ls : Array Slot} {rest : List Value}
set_option maxHeartbeats 4000000 in
theorem a_sim_bin (hx : p.tables.exec = Jvm.exec) (hb : c.code = cc) {i : Instr} {x y z : Int32} (hd : decode cc pc = .ok (i, a_len i 1)) (h : a_bin i x y = some z)
    (k : W p l e R s m args below meth c H locs cells slots Q (F0 m (pc + 1) ls (.int z :: rest))) : W p l e R s m args below meth c H locs cells slots Q (F0 m pc ls (.int y :: .int x :: rest)) := by
  unfold a_bin at h
  split at h
  · cases h; exact lv_iadd hx hb hd k
  · cases h; exact lv_isub hx hb hd k
  · cases h; exact lv_imul hx hb hd k
  · split at h
    · cases h
    · next hy => cases h; exact lv_idiv hx hb hd hy k
  · split at h
    · cases h
    · next hy => cases h; exact lv_irem hx hb hd hy k
  · cases h; exact lv_iand hx hb hd k
  · cases h; exact lv_ior hx hb hd k
  · cases h; exact lv_ixor hx hb hd k
  · cases h; exact lv_ishl hx hb hd k
  · cases h; exact lv_ishr hx hb hd k
  · cases h; exact lv_iushr hx hb hd rfl k
  · cases h
set_option maxHeartbeats 4000000 in
theorem a_sim_binL (hx : p.tables.exec = Jvm.exec) (hb : c.code = cc) {i : Instr} {x y : Int64} {z : Value} (hd : decode cc pc = .ok (i, a_len i 1)) (h : a_binL i x y = some z)
    (k : W p l e R s m args below meth c H locs cells slots Q (F0 m (pc + 1) ls (z :: rest))) : W p l e R s m args below meth c H locs cells slots Q (F0 m pc ls (.long y :: .long x :: rest)) := by
  unfold a_binL at h
  split at h
  · cases h; exact lv_ladd hx hb hd k
  · cases h; exact lv_lmul hx hb hd k
  · split at h
    · cases h
    · next hy => cases h; exact lv_lrem hx hb hd hy k
  · cases h; exact lv_land hx hb hd k
  · cases h; exact lv_lor hx hb hd k
  · cases h; exact W.lcmp hx hb hd k
  · cases h
theorem a_binL_nr {i : Instr} {x y : Int64} {z : Value} (h : a_binL i x y = some z) (ad : Nat → Nat) : a_cv ad z = z := by
  unfold a_binL at h
  split at h <;> first | (cases h; done) | (cases h; rfl) | (split at h <;> first | (cases h; done) | (cases h; rfl))
set_option maxHeartbeats 8000000 in
theorem a_sim_if (hx : p.tables.exec = Jvm.exec) (hb : c.code = cc) {cd : ClassFile.Cond} {off : Int} {t : Nat} {x : Int32} (hd : decode cc pc = .ok (.ifCond cd off, 3)) (ht : (pc : Int) + off = (t : Int))
    (k : W p l e R s m args below meth c H locs cells slots Q (F0 m (if a_c1 cd x then t else pc + 3) ls rest)) : W p l e R s m args below meth c H locs cells slots Q (F0 m pc ls (.int x :: rest)) := by
  cases cd
  · refine lv_if_eq hx hb hd ht (fun q => ?_) (fun q => ?_) <;> simpa [a_c1, q] using k
  · refine lv_if_ne hx hb hd ht (fun q => ?_) (fun q => ?_) <;> simpa [a_c1, q] using k
  · refine lv_if_lt hx hb hd ht (fun q => ?_) (fun q => ?_)
    · rw [if_pos (show a_c1 .lt x = true from decide_eq_true q)] at k; exact k
    · rw [if_neg (show ¬ a_c1 .lt x = true from fun z => q (of_decide_eq_true z))] at k; exact k
  · refine lv_if_ge hx hb hd ht (fun q => ?_) (fun q => ?_)
    · rw [if_pos (show a_c1 .ge x = true from decide_eq_true q)] at k; exact k
    · rw [if_neg (show ¬ a_c1 .ge x = true from fun z => q (of_decide_eq_true z))] at k; exact k
  · refine lv_if_gt hx hb hd ht (fun q => ?_) (fun q => ?_)
    · rw [if_pos (show a_c1 .gt x = true from decide_eq_true q)] at k; exact k
    · rw [if_neg (show ¬ a_c1 .gt x = true from fun z => q (of_decide_eq_true z))] at k; exact k
  · refine lv_if_le hx hb hd ht (fun q => ?_) (fun q => ?_)
    · rw [if_pos (show a_c1 .le x = true from decide_eq_true q)] at k; exact k
    · rw [if_neg (show ¬ a_c1 .le x = true from fun z => q (of_decide_eq_true z))] at k; exact k
set_option maxHeartbeats 8000000 in
theorem a_sim_icmp (hx : p.tables.exec = Jvm.exec) (hb : c.code = cc) {cd : ClassFile.Cond} {off : Int} {t : Nat} {x y : Int32} (hd : decode cc pc = .ok (.if_icmp cd off, 3)) (ht : (pc : Int) + off = (t : Int))
    (k : W p l e R s m args below meth c H locs cells slots Q (F0 m (if a_c2 cd x y then t else pc + 3) ls rest)) : W p l e R s m args below meth c H locs cells slots Q (F0 m pc ls (.int y :: .int x :: rest)) := by
  cases cd
  · refine lv_icmp_eq hx hb hd ht (fun q => ?_) (fun q => ?_)
    · rw [if_pos (show a_c2 .eq x y = true from decide_eq_true q)] at k; exact k
    · rw [if_neg (show ¬ a_c2 .eq x y = true from fun z => q (of_decide_eq_true z))] at k; exact k
  · refine lv_icmp_ne hx hb hd ht (fun q => ?_) (fun q => ?_)
    · rw [if_pos (show a_c2 .ne x y = true from decide_eq_true q)] at k; exact k
    · rw [if_neg (show ¬ a_c2 .ne x y = true from fun z => (of_decide_eq_true z : ¬ x = y) q)] at k; exact k
  · refine lv_icmp_lt hx hb hd ht (fun q => ?_) (fun q => ?_)
    · rw [if_pos (show a_c2 .lt x y = true from decide_eq_true q)] at k; exact k
    · rw [if_neg (show ¬ a_c2 .lt x y = true from fun z => q (of_decide_eq_true z))] at k; exact k
  · refine lv_icmp_ge hx hb hd ht (fun q => ?_) (fun q => ?_)
    · rw [if_pos (show a_c2 .ge x y = true from decide_eq_true q)] at k; exact k
    · rw [if_neg (show ¬ a_c2 .ge x y = true from fun z => q (of_decide_eq_true z))] at k; exact k
  · refine lv_icmp_gt hx hb hd ht (fun q => ?_) (fun q => ?_)
    · rw [if_pos (show a_c2 .gt x y = true from decide_eq_true q)] at k; exact k
    · rw [if_neg (show ¬ a_c2 .gt x y = true from fun z => q (of_decide_eq_true z))] at k; exact k
  · refine lv_icmp_le hx hb hd ht (fun q => ?_) (fun q => ?_)
    · rw [if_pos (show a_c2 .le x y = true from decide_eq_true q)] at k; exact k
    · rw [if_neg (show ¬ a_c2 .le x y = true from fun z => q (of_decide_eq_true z))] at k; exact k
set_option maxHeartbeats 16000000 in
/-- a step of a_pure -/
theorem a_sim_pure {ad : Nat → Nat} {nL : Nat} {lv lv' : a_LV} {st st' : List Value} {pc' ln : Nat} {i : Instr} (hx : p.tables.exec = Jvm.exec) (hb : c.code = cc) (hd : decode cc pc = .ok (i, ln)) (hln : ln = a_len i ln) (hs : a_pure i pc lv st = some (pc', lv', st')) (hl : a_L ad ls nL lv)
    (kk : ∀ ls' : Array Slot, a_L ad ls' nL lv' → W p l e R s m args below meth c H locs cells slots Q (F0 m pc' ls' (st'.map (a_cv ad)))) : W p l e R s m args below meth c H locs cells slots Q (F0 m pc ls (st.map (a_cv ad))) := by
  rw [hln] at hd
  unfold a_pure at hs
  split at hs
  · cases hs; exact lv_iconst hx hb hd rfl (kk _ hl)
  · cases hs; exact lv_bipush hx hb hd rfl (kk _ hl)
  · cases hs; exact lv_sipush hx hb hd rfl (kk _ hl)
  · cases hs; exact lv_lconst hx hb hd rfl (kk _ hl)
  · split at hs
    · next x ex => cases hs; exact lv_iload_n hx hb hd rfl (hl.2.2.2 _ _ (a_iv_get ex)) (kk _ hl)
    · cases hs
  · split at hs
    · next x ex => cases hs; exact lv_iload hx hb hd (hl.2.2.2 _ _ (a_iv_get ex)) (kk _ hl)
    · cases hs
  · split at hs
    · next x ex => cases hs; exact lv_lload_n hx hb hd rfl (hl.2.2.2 _ _ (a_lgv_get ex)) (kk _ hl)
    · cases hs
  · split at hs
    · next x ex => cases hs; exact lv_lload hx hb hd (hl.2.2.2 _ _ (a_lgv_get ex)) (kk _ hl)
    · cases hs
  · split at hs
    · next x ex => cases hs; exact lv_aload_n hx hb hd rfl (hl.2.2.2 _ _ (a_rv_get ex)) (kk _ hl)
    · cases hs
  · split at hs
    · next x ex => cases hs; exact lv_aload hx hb hd (hl.2.2.2 _ _ (a_rv_get ex)) (kk _ hl)
    · cases hs
  · split at hs
    · split at hs
      · next x r lv2 ep =>
        cases hs
        obtain ⟨h1, h2⟩ := a_put_ok hl ep
        exact lv_istore_n hx hb hd rfl (a_la_has hl) h1 rfl (fun ls' h' => kk ls' (h2 ls' h'))
      · cases hs
    · cases hs
  · split at hs
    · split at hs
      · next x r lv2 ep =>
        cases hs
        obtain ⟨h1, h2⟩ := a_put_ok hl ep
        exact lv_istore hx hb hd (a_la_has hl) h1 rfl (fun ls' h' => kk ls' (h2 ls' h'))
      · cases hs
    · cases hs
  · split at hs
    · split at hs
      · next x r lv2 ep =>
        cases hs
        obtain ⟨h1, h2⟩ := a_put_ok hl ep
        exact lv_astore_n hx hb hd rfl (a_la_has hl) h1 rfl (fun ls' h' => kk ls' (h2 ls' h'))
      · cases hs
    · cases hs
  · split at hs
    · next x ex =>
      split at hs
      · next lv2 ep =>
        cases hs
        obtain ⟨h1, h2⟩ := a_put_ok hl ep
        have hm := a_la_in (ad := ad) (a_iv_get ex)
        obtain ⟨k, hk⟩ := List.getElem?_of_mem hm
        exact lv_iinc hx hb hd (a_la_has hl) hk rfl h1 rfl (fun ls' h' => kk ls' (h2 ls' h'))
      · cases hs
    · cases hs
  · split at hs
    · split at hs
      · next v r ec => cases hs; exact lv_dup hx hb hd (by rw [a_cv_cat]; exact Nat.eq_of_beq_eq_true ec) (kk _ hl)
      · cases hs
    · cases hs
  · split at hs
    · split at hs
      · next v r ec => cases hs; exact lv_pop hx hb hd (by rw [a_cv_cat]; exact Nat.eq_of_beq_eq_true ec) (kk _ hl)
      · cases hs
    · cases hs
  · split at hs
    · split at hs
      · next v w r ec ec2 => cases hs; exact lv_dup2_11 hx hb hd (by rw [a_cv_cat]; exact Nat.eq_of_beq_eq_true ec) (by rw [a_cv_cat]; exact Nat.eq_of_beq_eq_true ec2) (kk _ hl)
      · cases hs
    · cases hs
  · split at hs
    · cases hs; exact lv_i2l hx hb hd rfl (kk _ hl)
    · cases hs
  · split at hs
    · cases hs; exact lv_l2i hx hb hd rfl (kk _ hl)
    · cases hs
  · split at hs
    · cases hs; exact lv_i2c hx hb hd rfl (kk _ hl)
    · cases hs
  · split at hs
    · cases hs; exact lv_lshl hx hb hd rfl (kk _ hl)
    · cases hs
  · split at hs
    · cases hs; exact lv_lshr hx hb hd rfl (kk _ hl)
    · cases hs
  · split at hs
    · cases hs; exact lv_lushr hx hb hd rfl (kk _ hl)
    · cases hs
  · split at hs
    · split at hs
      · next t et => cases hs; exact a_sim_if hx hb hd (a_tgt_eq et) (kk _ hl)
      · cases hs
    · cases hs
  · split at hs
    · split at hs
      · next t et => cases hs; exact a_sim_icmp hx hb hd (a_tgt_eq et) (kk _ hl)
      · cases hs
    · cases hs
  · split at hs
    · next t et => cases hs; exact lv_goto hx hb hd (a_tgt_eq et) (kk _ hl)
    · cases hs
  · split at hs
    · split at hs
      · next hc =>
        split at hs
        · next t et => cases hs; exact lv_tableOut hx hb hd hc (a_tgt_eq et) (kk _ hl)
        · cases hs
      · next hc =>
        split at hs
        · next off eo =>
          split at hs
          · next t et => cases hs; exact lv_tableIn hx hb hd (fun z => hc (Or.inl z)) (fun z => hc (Or.inr z)) eo (a_tgt_eq et) (kk _ hl)
          · cases hs
        · cases hs
    · cases hs
  · rename_i hn
    have hd1 : ∀ j : Nat, a_len i j = a_len i 1 ∨ ∃ a b c d, i = .tableswitch a b c d := by
      intro j
      cases i <;> first | exact Or.inl rfl | exact Or.inr ⟨_, _, _, _, rfl⟩
    have hd2 : decode cc pc = .ok (i, a_len i 1) := by
      rcases hd1 ln with h | ⟨_, _, _, _, h⟩
      · rw [← h]; exact hd
      · exact absurd h (hn _ _ _ _)
    split at hs
    · split at hs
      · next z ez => cases hs; exact a_sim_bin hx hb hd2 ez (kk _ hl)
      · cases hs
    · split at hs
      · next z ez =>
        cases hs
        refine a_sim_binL hx hb hd2 ez ?_
        have := kk _ hl
        rw [List.map_cons, a_binL_nr ez] at this
        exact this
      · cases hs
    · cases hs
end APURE
end
section
/-! the small machine's cells are cells of the heap -/
def a_fv (ad : Nat → Nat) (f : Nat → Int32) (k : Nat) (o : Option (Option Nat)) : Value := match o with
  | none => .int (f k)
  | some none => .null
  | some (some q) => .ref (ad q)
def a_e (ad : Nat → Nat) (cA : Nat → ClassId) (f : Nat → Int32) (c : a_C) : va_E := match c with
  | .inl (ci, fs) => .inr (ci, fs.mapIdx (a_fv ad f))
  | .inr (t, n) => .inl (cA t, n, .inl f)
def a_ws (ad : Nat → Nat) (cA : Nat → ClassId) (h : a_H) : va_W := h.1.mapIdx (fun i c => (ad i, a_e ad cA (h.2 i) c))
theorem a_ws_at {ad : Nat → Nat} {cA : Nat → ClassId} {h : a_H} {c : Nat} {x : a_C} (e : h.1[c]? = some x) : (a_ws ad cA h)[c]? = some (ad c, a_e ad cA (h.2 c) x) := by
  simp [a_ws, List.getElem?_mapIdx, e]
theorem a_row_s (m : Nat → Nat → Int32) (c : Nat) (f : Nat → Int32) : a_row m c f c = f := by simp [a_row]
theorem a_row_n (m : Nat → Nat → Int32) {c d : Nat} (f : Nat → Int32) (h : d ≠ c) : a_row m c f d = m d := by simp [a_row, h]
/-- one cell of it changes -/
theorem a_ws_set {ad : Nat → Nat} {cA : Nat → ClassId} {S : List a_C} {m : Nat → Nat → Int32} {c : Nat} {x x' : a_C} {g : Nat → Int32} (e : S[c]? = some x) : (a_ws ad cA (S, m)).set c (ad c, a_e ad cA g x') = a_ws ad cA (S.set c x', a_row m c g) := by
  have hlt : c < S.length := (List.getElem?_eq_some_iff.mp e).1
  apply List.ext_getElem?
  intro j
  rw [List.getElem?_set]
  by_cases h : c = j
  · subst h
    rw [if_pos rfl, if_pos (by simp [a_ws, hlt])]
    simp [a_ws, List.getElem?_mapIdx, List.getElem?_set, hlt, a_row_s]
  · rw [if_neg h]
    simp [a_ws, List.getElem?_mapIdx, List.getElem?_set, h, a_row_n m g (show j ≠ c from fun q => h q.symm)]
theorem a_set_same {α : Type} {S : List α} {c : Nat} {x : α} (e : S[c]? = some x) : S.set c x = S := by
  apply List.ext_getElem?
  intro j
  rw [List.getElem?_set]
  by_cases h : c = j
  · subst h
    have hlt : c < S.length := (List.getElem?_eq_some_iff.mp e).1
    rw [if_pos rfl, if_pos hlt, e]
  · rw [if_neg h]
theorem a_ws_row {ad : Nat → Nat} {cA : Nat → ClassId} {S : List a_C} {m : Nat → Nat → Int32} {c t n : Nat} {g : Nat → Int32} (e : S[c]? = some (.inr (t, n))) : (a_ws ad cA (S, m)).set c (ad c, .inl (cA t, n, .inl g)) = a_ws ad cA (S, a_row m c g) := by
  have h := a_ws_set (ad := ad) (cA := cA) (m := m) (x' := .inr (t, n)) (g := g) e
  rw [a_set_same e] at h
  exact h
theorem a_fvs_set {ad : Nat → Nat} {f : Nat → Int32} {fs : List (Option (Option Nat))} {k : Nat} {v : Int32} (e : fs[k]? = some none) : (fs.mapIdx (a_fv ad f)).set k (.int v) = fs.mapIdx (a_fv ad (upd f k v)) := by
  have hlt : k < fs.length := (List.getElem?_eq_some_iff.mp e).1
  apply List.ext_getElem?
  intro j
  rw [List.getElem?_set]
  by_cases h : k = j
  · subst h
    rw [if_pos rfl, if_pos (by simp [hlt])]
    simp [List.getElem?_mapIdx, e, a_fv, upd]
  · rw [if_neg h]
    rw [List.getElem?_mapIdx, List.getElem?_mapIdx]
    congr 1
    funext o
    cases o with
    | none => simp [a_fv, upd, show ¬ j = k from fun q => h q.symm]
    | some o => cases o <;> rfl
theorem a_ws_int {ad : Nat → Nat} {cA : Nat → ClassId} {S : List a_C} {m : Nat → Nat → Int32} {c ci k : Nat} {fs : List (Option (Option Nat))} {v : Int32} (e : S[c]? = some (.inl (ci, fs))) (e2 : fs[k]? = some none) : (a_ws ad cA (S, m)).set c (ad c, .inr (ci, (fs.mapIdx (a_fv ad (m c))).set k (.int v))) = a_ws ad cA (S, a_up m c k v) := by
  have h := a_ws_set (ad := ad) (cA := cA) (m := m) (x' := .inl (ci, fs)) (g := upd (m c) k v) e
  rw [a_set_same e] at h
  rw [a_fvs_set e2]
  exact h
theorem a_ws_ref {ad : Nat → Nat} {cA : Nat → ClassId} {S : List a_C} {m : Nat → Nat → Int32} {c ci k q : Nat} {fs : List (Option (Option Nat))} (e : S[c]? = some (.inl (ci, fs))) : (a_ws ad cA (S, m)).set c (ad c, .inr (ci, (fs.mapIdx (a_fv ad (m c))).set k (.ref (ad q)))) = a_ws ad cA (S.set c (.inl (ci, fs.set k (some (some q)))), m) := by
  have h := a_ws_set (ad := ad) (cA := cA) (m := m) (x' := .inl (ci, fs.set k (some (some q)))) (g := m c) e
  have h2 : a_row m c (m c) = m := by
    funext d
    by_cases hd : d = c
    · rw [hd, a_row_s]
    · rw [a_row_n m _ hd]
  rw [h2] at h
  rw [← h]
  congr 3
  refine Prod.ext rfl ?_
  show (fs.mapIdx (a_fv ad (m c))).set k (.ref (ad q)) = (fs.set k (some (some q))).mapIdx (a_fv ad (m c))
  apply List.ext_getElem?
  intro j
  rw [List.getElem?_set, List.getElem?_mapIdx, List.getElem?_mapIdx, List.getElem?_set]
  by_cases hj : k = j
  · subst hj
    rw [if_pos rfl, if_pos rfl]
    by_cases hlt : k < fs.length
    · simp [hlt, a_fv]
    · simp [hlt]
  · rw [if_neg hj, if_neg hj]
/-- addresses that agree on what is there give the same world -/
def a_ag (n : Nat) (ad ad' : Nat → Nat) : Prop := ∀ i, (i < n ∨ 1000 ≤ i) → ad' i = ad i
theorem a_ag.rf {n : Nat} {ad : Nat → Nat} : a_ag n ad ad := fun _ _ => rfl
theorem a_okv_cv {n : Nat} {ad ad' : Nat → Nat} (h : a_ag n ad ad') {v : Value} (hv : a_okv n v = true) : a_cv ad' v = a_cv ad v := by
  cases v with
  | ref q =>
    simp only [a_okv, Bool.or_eq_true, Nat.blt_eq, Nat.ble_eq] at hv
    simp only [a_cv]
    rw [h q hv]
  | _ => rfl
theorem a_wf_st {S : List a_C} {lv : a_LV} {st : List Value} {ad ad' : Nat → Nat} (hw : a_wf S lv st = true) (h : a_ag S.length ad ad') : st.map (a_cv ad') = st.map (a_cv ad) := by
  simp only [a_wf, Bool.and_eq_true] at hw
  apply List.map_congr_left
  intro v hv
  exact a_okv_cv h (List.all_eq_true.mp hw.1.1.2 v hv)
theorem a_wf_L {S : List a_C} {lv : a_LV} {st : List Value} {ad ad' : Nat → Nat} {ls : Array Slot} {nL : Nat} (hw : a_wf S lv st = true) (h : a_ag S.length ad ad') (hl : a_L ad ls nL lv) : a_L ad' ls nL lv := by
  simp only [a_wf, Bool.and_eq_true] at hw
  refine ⟨hl.1, hl.2.1, hl.2.2.1, fun i v hv => ?_⟩
  have h1 : a_okv S.length v = true := by
    have hm : some v ∈ lv := by
      unfold a_get at hv
      cases e : lv[i]? with
      | none => rw [e] at hv; cases hv
      | some o =>
        rw [e] at hv
        simp only at hv
        rw [← hv]
        exact List.mem_of_getElem? e
    exact List.all_eq_true.mp hw.1.2 _ hm
  rw [a_okv_cv h h1]
  exact hl.2.2.2 i v hv
theorem a_wf_ws {S : List a_C} {lv : a_LV} {st : List Value} {ad ad' : Nat → Nat} {cA : Nat → ClassId} {m : Nat → Nat → Int32} (hw : a_wf S lv st = true) (h : a_ag S.length ad ad') : a_ws ad' cA (S, m) = a_ws ad cA (S, m) := by
  simp only [a_wf, Bool.and_eq_true] at hw
  apply List.ext_getElem?
  intro j
  simp only [a_ws, List.getElem?_mapIdx]
  cases e : S[j]? with
  | none => rfl
  | some x =>
    have hj : j < S.length := (List.getElem?_eq_some_iff.mp e).1
    simp only [Option.map_some, Option.some.injEq, Prod.mk.injEq]
    refine ⟨h j (Or.inl hj), ?_⟩
    have hx := List.all_eq_true.mp hw.2 x (List.mem_of_getElem? e)
    cases x with
    | inr y => rfl
    | inl y =>
      obtain ⟨ci, fs⟩ := y
      simp only at hx
      simp only [a_e]
      congr 2
      apply List.ext_getElem?
      intro k
      rw [List.getElem?_mapIdx, List.getElem?_mapIdx]
      cases ek : fs[k]? with
      | none => rfl
      | some o =>
        have ho := List.all_eq_true.mp hx o (List.mem_of_getElem? ek)
        cases o with
        | none => rfl
        | some o =>
          cases o with
          | none => rfl
          | some q =>
            simp only [Bool.or_eq_true, Nat.blt_eq, Nat.ble_eq] at ho
            simp only [Option.map_some, a_fv]
            rw [h q ho]
/-- a new cell -/
theorem a_ws_push {ad : Nat → Nat} {cA : Nat → ClassId} {S : List a_C} {m : Nat → Nat → Int32} {x : a_C} : a_ws ad cA (S ++ [x], a_row m S.length (fun _ => 0)) = a_ws ad cA (S, m) ++ [(ad S.length, a_e ad cA (fun _ => 0) x)] := by
  simp only [a_ws, List.mapIdx_append]
  congr 1
  · apply List.ext_getElem?
    intro j
    rw [List.getElem?_mapIdx, List.getElem?_mapIdx]
    cases e : S[j]? with
    | none => rfl
    | some y =>
      have hj : j < S.length := (List.getElem?_eq_some_iff.mp e).1
      simp only [Option.map_some]
      rw [a_row_n m _ (Nat.ne_of_lt hj)]
  · simp [a_row_s]
def a_nad (ad : Nat → Nat) (n q : Nat) : Nat → Nat := fun i => if i = n then q else ad i
theorem a_nad_ag {ad : Nat → Nat} {n q : Nat} (hn : n < 1000) : a_ag n ad (a_nad ad n q) := fun i hi => by
  unfold a_nad
  rw [if_neg (by omega)]
theorem a_nad_s {ad : Nat → Nat} {n q : Nat} : a_nad ad n q n = q := by simp [a_nad]
theorem a_wf_lt {S : List a_C} {lv : a_LV} {st : List Value} (hw : a_wf S lv st = true) : S.length < 900 := by
  simp only [a_wf, Bool.and_eq_true] at hw
  simpa using hw.1.1.1
/-- how many slots -/
def a_sz (c : a_C) : Nat := match c with
  | .inl (ci, _) => (match a_cl[ci]? with
    | some q => q.2.2
    | none => 0)
  | .inr (_, n) => n
def a_szs (S : List a_C) : Nat := (S.map a_sz).sum
theorem a_szs_push (S : List a_C) (x : a_C) : a_szs (S ++ [x]) = a_szs S + a_sz x := by simp [a_szs]
theorem a_szs_set {S : List a_C} {c ci k : Nat} {fs : List (Option (Option Nat))} {o : Option (Option Nat)} (e : S[c]? = some (.inl (ci, fs))) : a_szs (S.set c (.inl (ci, fs.set k o))) = a_szs S := by
  unfold a_szs
  congr 1
  apply List.ext_getElem?
  intro j
  rw [List.getElem?_map, List.getElem?_map, List.getElem?_set]
  by_cases h : c = j
  · subst h
    rw [if_pos rfl, if_pos (List.getElem?_eq_some_iff.mp e).1, e]
    rfl
  · rw [if_neg h]
/-! what holds around the cells -/
def a_A (a0 : Nat) : Nat → Prop := fun q => a0 ≤ q
def a_tys (cA : Nat → ClassId) : List (ClassId × FieldType) := [(cA 0, .int), (cA 1, .boolean), (cA 2, .char)]
def a_isN (w : Cond) : Bool := match w with
  | .fieldLinkNest .. => true
  | .methodLinkNest .. => true
  | _ => false
def a_StrE (ad : Nat → Nat) (a0 : Nat) (s : State) : Prop := (∃ adV : Nat → Nat, vk_S 7 a_sl a_sc (fun k => ad (1000 + k)) adV (a_A a0) s s.heap) ∧ (∀ (idx k : Nat) (tx : String) (p : Nat × Nat), a_look (a_ldcT 6) idx = some (.inr (k, tx), p) → vk_R (a_Cn 6) idx tx (ad (1000 + k)) s) ∧ va_Z "java/lang/String" "COMPACT_STRINGS" "Z" (.int 1) (a_A a0) s s.heap ∧ va_Zq "jdk/internal/util/Preconditions" "SIOOBE_FORMATTER" "Ljava/util/function/BiFunction;" (a_A a0) s s.heap
def a_Env (X : a_X) (ad : Nat → Nat) (D : va_G) (cA : Nat → ClassId) (a0 : Nat) (s : State) : Prop := va_K D a_cl (a_tys cA) s ∧ a0 ≤ s.heap.size ∧ (∀ w ∈ lw_tbl, a_isN w = true → va_Nw w s) ∧ (∀ (L : Nat) (xs : Nat → Int32), X = some (L, xs) → va_X (ad 2000) L xs s s.heap ∧ ad 2000 < s.heap.size ∧ ad 2000 < a0) ∧ a_StrE ad a0 s
theorem a_Env.ad {X : a_X} {ad ad' : Nat → Nat} {D : va_G} {cA : Nat → ClassId} {a0 : Nat} {s : State} (h : a_Env X ad D cA a0 s) (e : ∀ i, 1000 ≤ i → ad' i = ad i) : a_Env X ad' D cA a0 s := by
  obtain ⟨h1, h2, h3, h4, h5, h6, h7, h8⟩ := h
  have e2 : ad' 2000 = ad 2000 := e _ (by omega)
  have e3 : (fun k => ad' (1000 + k)) = (fun k => ad (1000 + k)) := by
    funext k
    exact e _ (by omega)
  refine ⟨h1, h2, h3, fun L xs q => ?_, ?_, fun idx k tx p q => ?_, h7, h8⟩
  · rw [e2]; exact h4 L xs q
  · rw [e3]; exact h5
  · rw [e _ (by omega)]; exact h6 idx k tx p q
theorem a_Env.same {X : a_X} {ad : Nat → Nat} {D : va_G} {cA : Nat → ClassId} {a0 : Nat} {s U : State} (h : a_Env X ad D cA a0 s) (hv : U.vm = s.vm) (hh : U.heap = s.heap) : a_Env X ad D cA a0 U := by
  have ha : s.vm.Alike U.vm := by rw [hv]; exact Vm.Alike.refl _
  obtain ⟨h1, h2, h3, h4, ⟨adV, h5⟩, h6, h7, h8⟩ := h
  refine ⟨va_K.moved ha h1, by rw [hh]; exact h2, fun w hw hn => ?_, fun L xs q => ?_, ⟨adV, ?_⟩, fun idx k tx p q => ?_, ?_, ?_⟩
  · have h := h3 w hw hn
    cases w <;> first | (cases hn; done) | exact va_Nw.same rfl hv.symm h
  · obtain ⟨g1, g2, g3⟩ := h4 L xs q
    rw [hh]
    exact ⟨va_X.moved ha g1, g2, g3⟩
  · rw [hh]; exact vk_S.moved ha h5
  · exact vk_R.same hv (h6 idx k tx p q)
  · rw [hh]; exact va_Z.moved ha h7
  · rw [hh]; exact va_Zq.moved ha h8
theorem a_Env.to {X : a_X} {ad : Nat → Nat} {D : va_G} {cA : Nat → ClassId} {a0 : Nat} {s U : State} {locs : List Loc} (h : a_Env X ad D cA a0 s) (hW : s.WarmedH U.vm) (hS : va_S (a_A a0) s.heap U.heap locs) : a_Env X ad D cA a0 U := by
  have ha : s.vm.Alike U.vm := hW.alike
  obtain ⟨h1, h2, h3, h4, ⟨adV, h5⟩, h6, h7, h8⟩ := h
  refine ⟨va_K.moved ha h1, Nat.le_trans h2 hS.1, fun w hw hn => ?_, fun L xs q => ?_, ⟨adV, ?_⟩, fun idx k tx p q => ?_, ?_, ?_⟩
  · have h := h3 w hw hn
    cases w <;> first | (cases hn; done) | exact va_Nw.warmF hW h | exact va_Nw.warmM hW h
  · obtain ⟨g1, g2, g3⟩ := h4 L xs q
    exact ⟨va_X.moved ha (g1.kept (hS.2.1 _ g2 (Nat.not_le.mpr g3))), Nat.lt_of_lt_of_le g2 hS.1, g3⟩
  · exact vk_S.moved ha (h5.kept hS.2.1)
  · exact vk_R.warm hW (h6 idx k tx p q)
  · exact va_Z.moved ha (h7.kept hS.2.1)
  · exact va_Zq.moved ha (h8.kept hS.2.1)
/-! what the classes' tables say -/
theorem a_clW0 : ∀ ci, ci < 10 → ∀ q, a_cl[ci]? = some q → ∀ w ∈ u_ws q.1 q.2.1 q.2.2, w ∈ lw_tbl := by
  intro ci hci q hq
  match ci, hq with
  | 0, hq => cases hq; decide +kernel
  | 1, hq => cases hq; decide +kernel
  | 2, hq => cases hq; decide +kernel
  | 3, hq => cases hq; decide +kernel
  | 4, hq => cases hq; decide +kernel
  | 5, hq => cases hq; decide +kernel
  | 6, hq => cases hq; decide +kernel
  | 7, hq => cases hq; decide +kernel
  | 8, hq => cases hq; decide +kernel
  | 9, hq => cases hq; decide +kernel
  | n + 10, hq => exact absurd hci (by omega)
theorem a_cl_lt {ci : Nat} {q : vw_C} (h : a_cl[ci]? = some q) : ci < 10 := (List.getElem?_eq_some_iff.mp h).1
theorem a_clW {ci : Nat} {q : vw_C} (h : a_cl[ci]? = some q) : ∀ w ∈ u_ws q.1 q.2.1 q.2.2, w ∈ a_LT := by
  intro w hw
  refine List.mem_filter.mpr ⟨a_clW0 ci (a_cl_lt h) q h w hw, ?_⟩
  obtain ⟨k, -, rfl⟩ := List.mem_map.mp hw
  unfold u_lay
  split <;> rfl
theorem a_clT {ci : Nat} {q : vw_C} (h : a_cl[ci]? = some q) : ∀ k, k < q.2.2 → parseFieldDescriptor (q.2.1 k).2.2.1 = some (a_ty ci k) := by
  match ci, h with
  | 0, h => cases h; exact tyX0_ok
  | 1, h => cases h; exact tyX1_ok
  | 2, h => cases h; exact tyX2_ok
  | 3, h => cases h; exact tyX3_ok
  | 4, h => cases h; exact tyX4_ok
  | 5, h => cases h; exact tyX5_ok
  | 6, h => cases h; exact tyX6_ok
  | 7, h => cases h; exact tyX7_ok
  | 8, h => cases h; exact tyX8_ok
  | 9, h => cases h; exact tyX9_ok
  | n + 10, h => exact absurd (a_cl_lt h) (by omega)
theorem a_clN {ci : Nat} {q : vw_C} (h : a_cl[ci]? = some q) : ∀ a, a < q.2.2 → ∀ b, b < q.2.2 → a ≠ b → (q.2.1 a).2.1 ≠ (q.2.1 b).2.1 := by
  match ci, h with
  | 0, h => cases h; exact nmX0
  | 1, h => cases h; exact nmX1
  | 2, h => cases h; exact nmX2
  | 3, h => cases h; exact nmX3
  | 4, h => cases h; exact nmX4
  | 5, h => cases h; exact nmX5
  | 6, h => cases h; exact nmX6
  | 7, h => cases h; exact nmX7
  | 8, h => cases h; exact nmX8
  | 9, h => cases h; exact nmX9
  | n + 10, h => exact absurd (a_cl_lt h) (by omega)
/-- the references are final and the class's own, the others aren't final -/
theorem a_clD {ci : Nat} {q : vw_C} (h : a_cl[ci]? = some q) : ∀ k, k < q.2.2 → (a_isR (a_ty ci k) = (q.2.1 k).2.2.2 ∧ (q.2.1 k).1 = q.1 ∧ a_Cn ci = q.1) := by
  match ci, h with
  | 0, h => cases h; decide +kernel
  | 1, h => cases h; decide +kernel
  | 2, h => cases h; decide +kernel
  | 3, h => cases h; decide +kernel
  | 4, h => cases h; decide +kernel
  | 5, h => cases h; decide +kernel
  | 6, h => cases h; decide +kernel
  | 7, h => cases h; decide +kernel
  | 8, h => cases h; decide +kernel
  | 9, h => cases h; decide +kernel
  | n + 10, h => exact absurd (a_cl_lt h) (by omega)
end
section
/-! the small machine's steps over cells are the machine's -/
section AHEAP
variable {p : Program} {l : Launch} {e : Env} {R : Room} {s : State} {m : MethodId} {args : Array Value} {below : List Frame} {meth : Method} {c : Code} {H : Heap} {locs : List Loc} {cells slots : Nat} {Q : State → Prop}
variable {pc : Nat} {ls : Array Slot}
/-- what a method's frame knows -/
def a_Ctx (M : a_Mth) (p : Program) (R : Room) (s : State) (m : MethodId) (args : Array Value) (meth : Method) (c : Code) : Prop :=
  p.tables.exec = Jvm.exec ∧ c.code = a_b M ∧ meth.sig.returnType = a_rt M ∧ c.maxLocals = a_mL M ∧ s.vm.findClass (a_Cn (a_cn M)) = some m.cls ∧ (∀ w ∈ a_LT, w.before args s = true) ∧ a_fr M ≤ R.frames ∧ a_lo M ≤ R.locals ∧ ((a_y M).name = "<init>" → meth.name = "<init>") ∧ a_ckI (a_b M) (a_il M) = true ∧ a_cn M < 13 ∧ meth.locks = false
theorem a_fld_ok {cn idx : Nat} {x : Nat × Nat × Nat × (Nat × Nat) × String} (hcn : cn < 13) (h : a_look (a_fldT cn) idx = some x) : a_ckF cn (idx, x) = true :=
  List.all_eq_true.mp (a_fld_all cn hcn) _ (a_look_mem h)
theorem a_cal_ok {cn idx : Nat} {x : Nat × Nat × Nat × List (Nat × Nat) × String} (hcn : cn < 13) (h : a_look (a_calT cn) idx = some x) : a_ckC cn (idx, x) = true :=
  List.all_eq_true.mp (a_cal_all cn hcn) _ (a_look_mem h)
theorem a_in_ok {i : Int32} {n : Nat} (h : a_in i n = true) : vp_in i n := by
  simp only [a_in, Bool.not_eq_true', Bool.or_eq_false_iff, decide_eq_false_iff_not] at h
  exact fun q => q.elim h.1 h.2
/-- what goes on behind such a step -/
def a_KK (p : Program) (l : Launch) (e : Env) (R : Room) (s : State) (m : MethodId) (args : Array Value) (below : List Frame) (meth : Method) (c : Code) (cells slots : Nat) (Q : State → Prop) (D : va_G) (cA : Nat → ClassId) (a0 nL : Nat) (ad : Nat → Nat) (h : a_H) (x : Nat × a_LV × List Value × a_H) : Prop :=
  ∀ (ad' : Nat → Nat) (H' : Heap) (locs' : List Loc) (ls' : Array Slot), va_P D a_cl (a_ws ad' cA x.2.2.2) H' → va_D (a_A a0) (a_ws ad' cA x.2.2.2) → va_S (a_A a0) s.heap H' locs' → a_ag h.1.length ad ad' → (x.2.2.2.1.length = h.1.length → ad' = ad) → a_L ad' ls' nL x.2.1 →
    W p l e R s m args below meth c H' locs' (cells + (x.2.2.2.1.length - h.1.length)) (slots + (a_szs x.2.2.2.1 - a_szs h.1)) Q (F0 m x.1 ls' (x.2.2.1.map (a_cv ad')))
variable {X : a_X} {ad : Nat → Nat} {D : va_G} {cA : Nat → ClassId} {a0 : Nat} {M : a_Mth} {lv : a_LV} {st : List Value} {h : a_H} {x : Nat × a_LV × List Value × a_H}
/-- a step that leaves the cells as they are -/
theorem a_KK.keep {nL : Nat} {pc' : Nat} {st' : List Value} (kk : a_KK p l e R s m args below meth c cells slots Q D cA a0 nL ad h (pc', lv, st', h)) (hP : va_P D a_cl (a_ws ad cA h) H) (hD : va_D (a_A a0) (a_ws ad cA h)) (hS : va_S (a_A a0) s.heap H locs) (hl : a_L ad ls nL lv) :
    W p l e R s m args below meth c H locs cells slots Q (F0 m pc' ls (st'.map (a_cv ad))) := by
  have k := kk ad H locs ls hP hD hS a_ag.rf (fun _ => rfl) hl
  simp only [Nat.sub_self, Nat.add_zero] at k
  exact k
/-- a step that makes no cell -/
theorem a_KK.put {nL : Nat} {pc' : Nat} {st' : List Value} {h' : a_H} {H' : Heap} {locs' : List Loc} (kk : a_KK p l e R s m args below meth c cells slots Q D cA a0 nL ad h (pc', lv, st', h')) (h1 : h'.1.length = h.1.length) (h2 : a_szs h'.1 = a_szs h.1) (hP : va_P D a_cl (a_ws ad cA h') H') (hD : va_D (a_A a0) (a_ws ad cA h')) (hS : va_S (a_A a0) s.heap H' locs') (hl : a_L ad ls nL lv) :
    W p l e R s m args below meth c H' locs' cells slots Q (F0 m pc' ls (st'.map (a_cv ad))) := by
  have k := kk ad H' locs' ls hP hD hS a_ag.rf (fun _ => rfl) hl
  simp only [h1, h2, Nat.sub_self, Nat.add_zero] at k
  exact k
set_option maxHeartbeats 4000000 in
theorem a_sim_getf {idx nL : Nat} (hC : a_Ctx M p R s m args meth c) (hE : a_Env X ad D cA a0 s) (hP : va_P D a_cl (a_ws ad cA h) H) (hD : va_D (a_A a0) (a_ws ad cA h)) (hS : va_S (a_A a0) s.heap H locs) (hl : a_L ad ls nL lv)
    (hd : decode (a_b M) pc = .ok (.getfield idx, 3)) (hs : a_getf (a_cn M) idx pc lv st h = some x) (kk : a_KK p l e R s m args below meth c cells slots Q D cA a0 nL ad h x) : W p l e R s m args below meth c H locs cells slots Q (F0 m pc ls (st.map (a_cv ad))) := by
  obtain ⟨hx, hb, hr, hml, hown, hts, -, -, -, -, hcn, -⟩ := hC
  unfold a_getf at hs
  split at hs
  · next a r =>
    split at hs
    · next ci k ns e1 =>
      split at hs
      · next cj fs e2 =>
        split at hs
        · next e3 =>
          have e3' := Nat.eq_of_beq_eq_true e3
          subst e3'
          have hck := a_fld_ok hcn e1
          unfold a_ckF at hck
          simp only at hck
          split at hck
          · next q eq =>
            simp only [Bool.and_eq_true, Nat.blt_eq] at hck
            obtain ⟨hk, hck⟩ := hck
            have hat := a_ws_at (ad := ad) (cA := cA) e2
            have go : ∀ v : Value, (fs.mapIdx (a_fv ad (h.2 a)))[k]? = some v → W p l e R s m args below meth c H locs cells slots Q (F0 m (pc + 3) ls (v :: r.map (a_cv ad))) → W p l e R s m args below meth c H locs cells slots Q (F0 m pc ls ((Value.ref a :: r).map (a_cv ad))) := by
              intro v hv kw
              split at hck
              · exact va_get (D := D) (C := q.1) (T := q.2.1) (N := q.2.2) hx hb hts (a_clW eq) hown hE.1 hP a hat eq k hk (hts _ (a_has_in hck)) (fun _ h9 => h9) hv hd kw
              · exact va_getN (D := D) (C := q.1) (T := q.2.1) (N := q.2.2) hx hb hts (a_clW eq) hown hE.1 hP a hat eq k hk (va_Nw.use rfl (hE.2.2.1 _ (a_hasN_in hck) rfl)) (fun _ h9 => h9) hv hd kw
            split at hs
            · next e4 =>
              cases hs
              exact go (.int (h.2 a k)) (by rw [List.getElem?_mapIdx, e4]; rfl) (kk.keep hP hD hS hl)
            · next q4 e4 =>
              cases hs
              exact go (.ref (ad q4)) (by rw [List.getElem?_mapIdx, e4]; rfl) (kk.keep hP hD hS hl)
            · cases hs
          · cases hck
        · cases hs
      · cases hs
    · cases hs
  · cases hs
theorem a_fit_ok {ty : FieldType} {v : Int32} (h : a_fit ty v = true) : narrow ty (.int v) = .int v ∧ fits ty (.int v) = true ∧ a_isR ty = false := by
  unfold a_fit at h
  split at h
  · exact ⟨rfl, rfl, rfl⟩
  · simp only [Bool.or_eq_true, decide_eq_true_eq] at h
    rcases h with rfl | rfl <;> exact ⟨rfl, rfl, rfl⟩
  · cases h
theorem a_isR_ok {ty : FieldType} (h : a_isR ty = true) (q : Nat) : narrow ty (.ref q) = .ref q ∧ fits ty (.ref q) = true := by
  cases ty <;> first | (cases h; done) | exact ⟨rfl, rfl⟩
set_option maxHeartbeats 4000000 in
theorem a_sim_putf {idx nL : Nat} (hC : a_Ctx M p R s m args meth c) (hE : a_Env X ad D cA a0 s) (hP : va_P D a_cl (a_ws ad cA h) H) (hD : va_D (a_A a0) (a_ws ad cA h)) (hS : va_S (a_A a0) s.heap H locs) (hl : a_L ad ls nL lv)
    (hd : decode (a_b M) pc = .ok (.putfield idx, 3)) (hs : a_putf M idx pc lv st h = some x) (kk : a_KK p l e R s m args below meth c cells slots Q D cA a0 nL ad h x) : W p l e R s m args below meth c H locs cells slots Q (F0 m pc ls (st.map (a_cv ad))) := by
  obtain ⟨hx, hb, hr, hml, hown, hts, -, -, hin, -, hcn, -⟩ := hC
  unfold a_putf at hs
  split at hs
  · next v a r =>
    split at hs
    · next ci k ns e1 =>
      split at hs
      · next cj fs e2 =>
        split at hs
        · next e3 e4 =>
          have e3' := Nat.eq_of_beq_eq_true e3
          subst e3'
          split at hs
          · next hf =>
            cases hs
            have hck := a_fld_ok hcn e1
            unfold a_ckF at hck
            simp only at hck
            split at hck
            · next q eq =>
              simp only [Bool.and_eq_true, Nat.blt_eq] at hck
              obtain ⟨hk, hck⟩ := hck
              have hat := a_ws_at (ad := ad) (cA := cA) e2
              obtain ⟨f1, f2, f3⟩ := a_fit_ok hf
              have hfin : (q.2.1 k).2.2.2 = false := by rw [← (a_clD eq k hk).1]; exact f3
              have hlen : k < (fs.mapIdx (a_fv ad (h.2 a))).length := by
                rw [List.length_mapIdx]
                exact (List.getElem?_eq_some_iff.mp e4).1
              have go : ∀ (H1 : Heap) (locs1 : List Loc), va_P D a_cl ((a_ws ad cA h).set a (ad a, .inr (cj, (fs.mapIdx (a_fv ad (h.2 a))).set k (.int v)))) H1 → va_D (a_A a0) ((a_ws ad cA h).set a (ad a, .inr (cj, (fs.mapIdx (a_fv ad (h.2 a))).set k (.int v)))) → va_S (a_A a0) s.heap H1 locs1 → W p l e R s m args below meth c H1 locs1 cells slots Q (F0 m (pc + 3) ls (r.map (a_cv ad))) := by
                intro H1 locs1 hP1 hD1 hS1
                have ew : (a_ws ad cA h).set a (ad a, .inr (cj, (fs.mapIdx (a_fv ad (h.2 a))).set k (.int v))) = a_ws ad cA (h.1, a_up h.2 a k v) := a_ws_int (S := h.1) (m := h.2) e2 e4
                rw [ew] at hP1 hD1
                exact kk.put rfl rfl hP1 hD1 hS1 hl
              split at hck
              · exact va_put (D := D) (C := q.1) (T := q.2.1) (N := q.2.2) hx hb hts (a_clW eq) (a_ty cj) (a_clT eq) (a_clN eq) hown hE.1 hP hD hS a hat eq k hk (hts _ (a_has_in hck)) (fun _ h9 => h9) hfin (a_clT eq k hk) f1 f2 hlen hd go
              · exact va_putN (D := D) (C := q.1) (T := q.2.1) (N := q.2.2) hx hb hts (a_clW eq) (a_ty cj) (a_clT eq) (a_clN eq) hown hE.1 hP hD hS a hat eq k hk (va_Nw.use rfl (hE.2.2.1 _ (a_hasN_in hck) rfl)) (fun _ h9 => h9) hfin (a_clT eq k hk) f1 f2 hlen hd go
            · cases hck
          · cases hs
        · cases hs
      · cases hs
    · cases hs
  · next b a r =>
    split at hs
    · next ci k ns w e1 =>
      split at hs
      · next cj fs e2 =>
        split at hs
        · next o e3 e4 =>
          have e3' := Nat.eq_of_beq_eq_true e3
          subst e3'
          split at hs
          · next hf =>
            cases hs
            simp only [Bool.and_eq_true, decide_eq_true_eq] at hf
            obtain ⟨⟨⟨n0, n1⟩, n2⟩, n3⟩ := hf
            have n0 := Nat.eq_of_beq_eq_true n0
            have n1 := Nat.eq_of_beq_eq_true n1
            subst n0
            have hck := a_fld_ok hcn e1
            unfold a_ckF at hck
            simp only at hck
            split at hck
            · next q eq =>
              simp only [Bool.and_eq_true, Nat.blt_eq] at hck
              obtain ⟨hk, hck⟩ := hck
              have hat := a_ws_at (ad := ad) (cA := cA) e2
              obtain ⟨d1, d2, d3⟩ := a_clD eq k hk
              obtain ⟨f1, f2⟩ := a_isR_ok n2 (ad b)
              have hfin : (q.2.1 k).2.2.2 = true := by rw [← d1]; exact n2
              have hlen : k < (fs.mapIdx (a_fv ad (h.2 a))).length := by
                rw [List.length_mapIdx]
                exact (List.getElem?_eq_some_iff.mp e4).1
              refine va_putF (D := D) (C := q.1) (T := q.2.1) (N := q.2.2) hx hb hts (a_clW eq) (a_ty cj) (a_clT eq) (a_clN eq) hown hE.1 hP hD hS a hat eq k hk (hts _ (a_has_in hck)) (fun _ h9 => h9) hfin (hin n3) (by rw [d2, ← d3, n1]) (a_clT eq k hk) f1 f2 hlen hd (fun H1 locs1 hP1 hD1 hS1 => ?_)
              have ew : (a_ws ad cA h).set a (ad a, .inr (cj, (fs.mapIdx (a_fv ad (h.2 a))).set k (a_cv ad (.ref b)))) = a_ws ad cA (h.1.set a (.inl (cj, fs.set k (some (some b)))), h.2) := a_ws_ref (S := h.1) (m := h.2) e2
              rw [ew] at hP1 hD1
              exact kk.put (List.length_set ..) (a_szs_set e2) hP1 hD1 hS1 hl
            · cases hck
          · cases hs
        · cases hs
      · cases hs
    · cases hs
  · cases hs
theorem a_tys_at {cA : Nat → ClassId} (t : Nat) (ht : t < 3) : (a_tys cA)[t]? = some (cA t, (match t with
    | 0 => FieldType.int
    | 1 => .boolean
    | _ => .char)) := by
  match t, ht with
  | 0, _ => rfl
  | 1, _ => rfl
  | 2, _ => rfl
  | n + 3, h => exact absurd h (by omega)
set_option maxHeartbeats 4000000 in
theorem a_sim_ald {tc nL : Nat} {i : Instr} (ht : (tc = 0 ∧ i = .iaload) ∨ (tc = 1 ∧ i = .baload) ∨ (tc = 2 ∧ i = .caload)) (hC : a_Ctx M p R s m args meth c) (hE : a_Env X ad D cA a0 s) (hP : va_P D a_cl (a_ws ad cA h) H) (hD : va_D (a_A a0) (a_ws ad cA h)) (hS : va_S (a_A a0) s.heap H locs) (hl : a_L ad ls nL lv)
    (hd : decode (a_b M) pc = .ok (i, 1)) (hs : a_ald X tc pc lv st h = some x) (kk : a_KK p l e R s m args below meth c cells slots Q D cA a0 nL ad h x) : W p l e R s m args below meth c H locs cells slots Q (F0 m pc ls (st.map (a_cv ad))) := by
  obtain ⟨hx, hb, hr, hml, hown, hts, -, -, -, -, hcn, -⟩ := hC
  unfold a_ald at hs
  split at hs
  · next j a r =>
    split at hs
    · next t n e2 =>
      split at hs
      · next e3 =>
        cases hs
        simp only [Bool.and_eq_true] at e3
        have e4 := Nat.eq_of_beq_eq_true e3.1
        subst e4
        have hat := a_ws_at (ad := ad) (cA := cA) e2
        have kw := kk.keep hP hD hS hl
        rcases ht with ⟨rfl, rfl⟩ | ⟨rfl, rfl⟩ | ⟨rfl, rfl⟩
        · exact va_iald hx hb hE.1 hP a 0 hat rfl (a_in_ok e3.2) hd kw
        · exact va_zald hx hb hE.1 hP a 1 hat rfl (a_in_ok e3.2) hd kw
        · exact va_cald hx hb hE.1 hP a 2 hat rfl (a_in_ok e3.2) hd kw
      · cases hs
    · cases hs
    · cases X with
      | none => cases hs
      | some Y =>
        obtain ⟨L, xs⟩ := Y
        simp only at hs
        split at hs
        · next e3 =>
          cases hs
          simp only [Bool.and_eq_true] at e3
          have e4 := Nat.eq_of_beq_eq_true e3.1.1
          have e5 := Nat.eq_of_beq_eq_true e3.1.2
          subst e4; subst e5
          obtain ⟨g1, g2, g3⟩ := hE.2.2.2.1 L xs rfl
          have kw := kk.keep hP hD hS hl
          rcases ht with ⟨-, rfl⟩ | ⟨h0, -⟩ | ⟨h0, -⟩
          · exact va_sld hx hb g1 g2 (Nat.not_le.mpr g3) hS (a_in_ok e3.2) hd kw
          · cases h0
          · cases h0
        · cases hs
  · cases hs
set_option maxHeartbeats 4000000 in
theorem a_sim_ast {tc nL : Nat} {i : Instr} (ht : (tc = 0 ∧ i = .iastore) ∨ (tc = 1 ∧ i = .bastore) ∨ (tc = 2 ∧ i = .castore)) (hC : a_Ctx M p R s m args meth c) (hE : a_Env X ad D cA a0 s) (hP : va_P D a_cl (a_ws ad cA h) H) (hD : va_D (a_A a0) (a_ws ad cA h)) (hS : va_S (a_A a0) s.heap H locs) (hl : a_L ad ls nL lv)
    (hd : decode (a_b M) pc = .ok (i, 1)) (hs : a_ast tc pc lv st h = some x) (kk : a_KK p l e R s m args below meth c cells slots Q D cA a0 nL ad h x) : W p l e R s m args below meth c H locs cells slots Q (F0 m pc ls (st.map (a_cv ad))) := by
  obtain ⟨hx, hb, hr, hml, hown, hts, -, -, -, -, hcn, -⟩ := hC
  unfold a_ast at hs
  split at hs
  · next v j a r =>
    split at hs
    · next t n e2 =>
      split at hs
      · next e3 =>
        cases hs
        simp only [Bool.and_eq_true] at e3
        have e4 := Nat.eq_of_beq_eq_true e3.1
        subst e4
        have hat := a_ws_at (ad := ad) (cA := cA) e2
        have go : ∀ (y : Int32) (H1 : Heap) (locs1 : List Loc), a_KK p l e R s m args below meth c cells slots Q D cA a0 nL ad h (pc + 1, lv, r, h.1, a_up h.2 a j.toNatClampNeg y) → va_P D a_cl ((a_ws ad cA h).set a (ad a, .inl (cA t, n, .inl (upd (h.2 a) j.toNatClampNeg y)))) H1 → va_D (a_A a0) ((a_ws ad cA h).set a (ad a, .inl (cA t, n, .inl (upd (h.2 a) j.toNatClampNeg y)))) → va_S (a_A a0) s.heap H1 locs1 → W p l e R s m args below meth c H1 locs1 cells slots Q (F0 m (pc + 1) ls (r.map (a_cv ad))) := by
          intro y H1 locs1 kk hP1 hD1 hS1
          have ew : (a_ws ad cA h).set a (ad a, .inl (cA t, n, .inl (upd (h.2 a) j.toNatClampNeg y))) = a_ws ad cA (h.1, a_up h.2 a j.toNatClampNeg y) := a_ws_row (S := h.1) (m := h.2) e2
          rw [ew] at hP1 hD1
          exact kk.put rfl rfl hP1 hD1 hS1 hl
        rcases ht with ⟨rfl, rfl⟩ | ⟨rfl, rfl⟩ | ⟨rfl, rfl⟩
        · exact va_iast hx hb hE.1 hP hD hS a 0 hat rfl (a_in_ok e3.2) hd (fun H1 locs1 hP1 hD1 hS1 => go _ H1 locs1 kk hP1 hD1 hS1)
        · exact va_zast hx hb hE.1 hP hD hS a 1 hat rfl (a_in_ok e3.2) hd (fun H1 locs1 hP1 hD1 hS1 => go _ H1 locs1 kk hP1 hD1 hS1)
        · exact va_cast hx hb hE.1 hP hD hS a 2 hat rfl (a_in_ok e3.2) hd (fun H1 locs1 hP1 hD1 hS1 => go _ H1 locs1 kk hP1 hD1 hS1)
      · cases hs
    · cases hs
  · cases hs
set_option maxHeartbeats 4000000 in
theorem a_sim_acopy {idx nL : Nat} {ps : List (Nat × Nat)} {z : Nat × Nat × String} (hC : a_Ctx M p R s m args meth c) (hE : a_Env X ad D cA a0 s) (hP : va_P D a_cl (a_ws ad cA h) H) (hD : va_D (a_A a0) (a_ws ad cA h)) (hS : va_S (a_A a0) s.heap H locs) (hl : a_L ad ls (a_mL M) lv)
    (hd : decode (a_b M) pc = .ok (.invokestatic idx, 3)) (hk : a_look (a_calT (a_cn M)) idx = some (7, z.1, z.2.1, ps, z.2.2)) (hs : a_acopy M pc lv st h = some x) (kk : a_KK p l e R s m args below meth c cells slots Q D cA a0 (a_mL M) ad h x) : W p l e R s m args below meth c H locs cells slots Q (F0 m pc ls (st.map (a_cv ad))) := by
  obtain ⟨hx, hb, hr, hml, hown, hts, hfr, hlo, -, -, hcn, -⟩ := hC
  have hck := a_cal_ok hcn hk
  unfold a_ckC at hck
  simp only at hck
  unfold a_acopy at hs
  split at hs
  · next n dp d sp a r =>
    split at hs
    · next n0 n1 e1 e2 =>
      split at hs
      · next e3 =>
        cases hs
        simp only [Bool.and_eq_true, decide_eq_true_eq, Nat.ble_eq] at e3
        obtain ⟨⟨⟨⟨⟨⟨⟨g1, g2⟩, g3⟩, g4⟩, g5⟩, g6⟩, g7⟩, g8⟩ := e3
        have hat1 := a_ws_at (ad := ad) (cA := cA) e1
        have hat2 := a_ws_at (ad := ad) (cA := cA) e2
        split at hck
        · next heq => simp at heq
        · next p0 p1 p2 p3 heq =>
          simp only [Bool.and_eq_true] at hck
          obtain ⟨⟨⟨w0, w1⟩, w2⟩, w3⟩ := hck
          refine va_copyi (ty := .int) hx hb (by rw [hml]; exact hl.1.symm) hown (hts _ (a_has_in w0)) (hts _ (a_has_in w1)) (hts _ (a_has_in w2)) (hts _ (a_has_in w3)) hE.1 hP hD hS a d 0 0 hat1 hat2 rfl rfl rfl g1 g2 g3 g4 g5 (fun _ _ => rfl) (Nat.le_trans g7 hfr) ?_ hd (fun H1 locs1 hP1 hD1 hS1 => ?_)
          · rw [a_cv_wt]
            have : nativeFrameWords "java/lang/System" "arraycopy" 5 = 7 := by decide
            omega
          · have ew : (a_ws ad cA h).set d (ad d, .inl (cA 0, n1, .inl (va_cpy (h.2 a) (h.2 d) sp.toNatClampNeg dp.toNatClampNeg n.toNatClampNeg))) = a_ws ad cA (h.1, a_row h.2 d (va_cpy (h.2 a) (h.2 d) sp.toNatClampNeg dp.toNatClampNeg n.toNatClampNeg)) := a_ws_row (S := h.1) (m := h.2) e2
            rw [ew] at hP1 hD1
            exact kk.put rfl rfl hP1 hD1 hS1 hl
        · next heq => simp at heq
        · next heq => simp at heq
        · exfalso
          split at hck
          · unfold a_ckC1 at hck
            simp at hck
          · cases hck
      · cases hs
    · cases hs
  · cases hs
end AHEAP
end
section
section AHEAP2
variable {p : Program} {l : Launch} {e : Env} {R : Room} {s : State} {m : MethodId} {args : Array Value} {below : List Frame} {meth : Method} {c : Code} {H : Heap} {locs : List Loc} {cells slots : Nat} {Q : State → Prop}
variable {pc : Nat} {ls : Array Slot}
variable {X : a_X} {ad : Nat → Nat} {D : va_G} {cA : Nat → ClassId} {a0 : Nat} {M : a_Mth} {lv : a_LV} {st : List Value} {h : a_H} {x : Nat × a_LV × List Value × a_H}
theorem a_dflt_fv (ci : Nat) (ad ad' : Nat → Nat) (f : Nat → Int32) : (a_dflt ci).mapIdx (a_fv ad' f) = (a_dflt ci).mapIdx (a_fv ad f) := by
  apply List.ext_getElem?
  intro j
  rw [List.getElem?_mapIdx, List.getElem?_mapIdx]
  cases ej : (a_dflt ci)[j]? with
  | none => rfl
  | some o =>
    have hm := List.mem_of_getElem? ej
    unfold a_dflt at hm
    split at hm
    · obtain ⟨k, -, hk⟩ := List.mem_map.mp hm
      split at hk <;> (rw [← hk]; rfl)
    · cases hm
theorem a_clV {ci : Nat} {q : vw_C} (h : a_cl[ci]? = some q) : ∀ k, k < q.2.2 → defaultValue (a_ty ci k) = vp_V ((a_dflt ci).mapIdx (a_fv (fun _ => 0) (fun _ => 0))) k := by
  match ci, h with
  | 0, h => cases h; decide +kernel
  | 1, h => cases h; decide +kernel
  | 2, h => cases h; decide +kernel
  | 3, h => cases h; decide +kernel
  | 4, h => cases h; decide +kernel
  | 5, h => cases h; decide +kernel
  | 6, h => cases h; decide +kernel
  | 7, h => cases h; decide +kernel
  | 8, h => cases h; decide +kernel
  | 9, h => cases h; decide +kernel
  | n + 10, h => exact absurd (a_cl_lt h) (by omega)
/-- a step that makes one cell -/
theorem a_KK.push {nL pc' q : Nat} {st' : List Value} {y : a_C} {H1 : Heap} (hw : a_wf h.1 lv st' = true) (kk : a_KK p l e R s m args below meth c cells slots Q D cA a0 nL ad h (pc', lv, .ref h.1.length :: st', h.1 ++ [y], a_row h.2 h.1.length (fun _ => 0)))
    (hy : a_e (a_nad ad h.1.length q) cA (fun _ => 0) y = a_e ad cA (fun _ => 0) y) (hP : va_P D a_cl (a_ws ad cA h ++ [(q, a_e ad cA (fun _ => 0) y)]) H1) (hD : va_D (a_A a0) (a_ws ad cA h ++ [(q, a_e ad cA (fun _ => 0) y)])) (hS : va_S (a_A a0) s.heap H1 locs) (hl : a_L ad ls nL lv) :
    W p l e R s m args below meth c H1 locs (cells + 1) (slots + a_sz y) Q (F0 m pc' ls (.ref q :: st'.map (a_cv ad))) := by
  have hn := a_wf_lt hw
  have hag : a_ag h.1.length ad (a_nad ad h.1.length q) := a_nad_ag (by omega)
  have ew : a_ws (a_nad ad h.1.length q) cA (h.1 ++ [y], a_row h.2 h.1.length (fun _ => 0)) = a_ws ad cA h ++ [(q, a_e ad cA (fun _ => 0) y)] := by
    rw [a_ws_push, a_wf_ws hw hag, a_nad_s, hy]
  have k := kk (a_nad ad h.1.length q) H1 locs ls (by rw [ew]; exact hP) (by rw [ew]; exact hD) hS hag (fun z => by simp at z) (a_wf_L hw hag hl)
  have e1 : (h.1 ++ [y]).length - h.1.length = 1 := by simp
  have e2 : a_szs (h.1 ++ [y]) - a_szs h.1 = a_sz y := by rw [a_szs_push]; omega
  simp only [e1, e2] at k
  have e3 : (Value.ref h.1.length :: st').map (a_cv (a_nad ad h.1.length q)) = .ref q :: st'.map (a_cv ad) := by
    rw [List.map_cons, a_wf_st hw hag]
    simp only [a_cv, a_nad_s]
  rw [e3] at k
  exact k
set_option maxHeartbeats 4000000 in
theorem a_sim_new {idx nL : Nat} (hC : a_Ctx M p R s m args meth c) (hE : a_Env X ad D cA a0 s) (hP : va_P D a_cl (a_ws ad cA h) H) (hD : va_D (a_A a0) (a_ws ad cA h)) (hS : va_S (a_A a0) s.heap H locs) (hl : a_L ad ls nL lv)
    (hbc : cells + (x.2.2.2.1.length - h.1.length) ≤ R.cells) (hbs : slots + (a_szs x.2.2.2.1 - a_szs h.1) ≤ R.slots) (hd : decode (a_b M) pc = .ok (.new idx, 3)) (hs : a_heap X M (.new idx) pc lv st h = some x) (kk : a_KK p l e R s m args below meth c cells slots Q D cA a0 nL ad h x) : W p l e R s m args below meth c H locs cells slots Q (F0 m pc ls (st.map (a_cv ad))) := by
  obtain ⟨hx, hb, hr, hml, hown, hts, -, -, -, -, hcn, -⟩ := hC
  simp only [a_heap] at hs
  split at hs
  · next ci z e1 =>
    split at hs
    · next e2 =>
      cases hs
      simp only [Bool.and_eq_true] at e2
      have hw := e2.2
      have hck : a_ckN (a_cn M) (idx, ci, z) = true := List.all_eq_true.mp (a_new_all _ hcn) _ (a_look_mem e1)
      unfold a_ckN at hck
      simp only at hck
      split at hck
      · next q eq =>
        simp only [Bool.and_eq_true] at hck
        obtain ⟨⟨w1, w2⟩, w3⟩ := hck
        have hsz : a_sz (.inl (ci, a_dflt ci)) = q.2.2 := by
          show (match a_cl[ci]? with
            | some q => q.2.2
            | none => 0) = q.2.2
          rw [eq]
        have e3 : (h.1 ++ [Sum.inl (ci, a_dflt ci)]).length - h.1.length = 1 := by simp
        have e4 : a_szs (h.1 ++ [Sum.inl (ci, a_dflt ci)]) - a_szs h.1 = q.2.2 := by rw [a_szs_push, hsz]; omega
        simp only [e3, e4] at hbc hbs
        refine va_new (ci := ci) (fs := (a_dflt ci).mapIdx (a_fv ad (fun _ => 0))) (C := q.1) (T := q.2.1) (N := q.2.2) hx hb hts (a_clW eq) (a_ty ci) (a_clT eq) hown (hts _ (a_has_in w1)) (hts _ (a_has_in w2)) (hts _ (a_has_in w3)) hE.1 hP hD hS (fun q hq => Nat.le_trans hE.2.1 hq) eq (fun j hj => ?_) hbc hbs hd (fun a H1 hP1 hD1 hS1 => ?_)
        · rw [a_dflt_fv ci (fun _ => 0) ad]
          exact a_clV eq j hj
        · have k := kk.push (q := a) hw (by simp only [a_e]; rw [a_dflt_fv ci ad]) hP1 hD1 hS1 hl
          rw [hsz] at k
          exact k
      · cases hck
    · cases hs
  · cases hs
theorem a_K_one {tys : List (ClassId × FieldType)} {ty : FieldType} {c1 c2 : ClassId} {t : Nat} {D : va_G} {s : State} (hty : ∀ C, ty ≠ .object C) (h : va_K D a_cl (tys ++ [(c2, ty)]) s) (ht : tys[t]? = some (c1, ty)) : c2 = c1 := by
  have h1 := (h.2 t (c1, ty) (by rw [List.getElem?_append_left (List.getElem?_eq_some_iff.mp ht).1]; exact ht)).2
  have h2 := (h.2 tys.length (c2, ty) (by simp)).2
  cases ty with
  | object C => exact absurd rfl (hty C)
  | _ =>
    simp only [va_RA] at h1 h2
    rw [h1] at h2
    exact (Option.some.inj h2).symm
set_option maxHeartbeats 4000000 in
theorem a_sim_newa {t : ArrayType} {nL : Nat} (hC : a_Ctx M p R s m args meth c) (hE : a_Env X ad D cA a0 s) (hP : va_P D a_cl (a_ws ad cA h) H) (hD : va_D (a_A a0) (a_ws ad cA h)) (hS : va_S (a_A a0) s.heap H locs) (hl : a_L ad ls nL lv)
    (hbc : cells + (x.2.2.2.1.length - h.1.length) ≤ R.cells) (hbs : slots + (a_szs x.2.2.2.1 - a_szs h.1) ≤ R.slots) (hd : decode (a_b M) pc = .ok (.newarray t, 2)) (hs : a_heap X M (.newarray t) pc lv st h = some x) (kk : a_KK p l e R s m args below meth c cells slots Q D cA a0 nL ad h x) : W p l e R s m args below meth c H locs cells slots Q (F0 m pc ls (st.map (a_cv ad))) := by
  obtain ⟨hx, hb, hr, hml, hown, hts, -, -, -, -, hcn, -⟩ := hC
  simp only [a_heap] at hs
  split at hs
  · next n r tc et =>
    split at hs
    · next e2 =>
      cases hs
      simp only [Bool.and_eq_true, decide_eq_true_eq, Nat.ble_eq] at e2
      obtain ⟨⟨g1, g2⟩, hw⟩ := e2
      have g1 : ¬ n < 0 := by simpa using g1
      have e3 : (h.1 ++ [Sum.inr (tc, n.toNatClampNeg)]).length - h.1.length = 1 := by simp
      have e4 : a_szs (h.1 ++ [Sum.inr (tc, n.toNatClampNeg)]) - a_szs h.1 = n.toNatClampNeg := by
        rw [a_szs_push]
        show _ + n.toNatClampNeg - _ = _
        omega
      simp only [e3, e4] at hbc hbs
      have hA : ∀ q, s.heap.size ≤ q → a_A a0 q := fun q hq => Nat.le_trans hE.2.1 hq
      have go : ∀ (q : Nat) (c2 : ClassId) (H1 : Heap), c2 = cA tc → va_P D a_cl (a_ws ad cA h ++ [(q, .inl (c2, n.toNatClampNeg, .inl (fun _ => 0)))]) H1 → va_D (a_A a0) (a_ws ad cA h ++ [(q, .inl (c2, n.toNatClampNeg, .inl (fun _ => 0)))]) → va_S (a_A a0) s.heap H1 locs → W p l e R s m args below meth c H1 locs (cells + 1) (slots + n.toNatClampNeg) Q (F0 m (pc + 2) ls (.ref q :: r.map (a_cv ad))) := by
        intro q c2 H1 hc hP1 hD1 hS1
        subst hc
        exact kk.push (q := q) (y := .inr (tc, n.toNatClampNeg)) hw rfl hP1 hD1 hS1 hl
      cases t with
      | int =>
        cases et
        exact va_newa (atype := .int) (ty := .int) (a0 := (n.toNatClampNeg, .inl (fun _ => 0))) (N' := n.toNatClampNeg) hx hb (hts _ (a_has_in a_arr_all.1)) rfl hE.1 hP hD hS hA (fun cA => rfl) g1 rfl (by show n.toNatClampNeg * 4 ≤ _; omega) hbc hbs hd (fun q c2 H1 hK1 hP1 hD1 hS1 => go q c2 H1 (a_K_one (t := 0) (fun C z => by cases z) hK1 rfl) hP1 hD1 hS1)
      | boolean =>
        cases et
        exact va_newa (atype := .boolean) (ty := .boolean) (a0 := (n.toNatClampNeg, .inl (fun _ => 0))) (N' := n.toNatClampNeg) hx hb (hts _ (a_has_in a_arr_all.2.1)) rfl hE.1 hP hD hS hA (fun cA => rfl) g1 rfl (by show n.toNatClampNeg * 1 ≤ _; omega) hbc hbs hd (fun q c2 H1 hK1 hP1 hD1 hS1 => go q c2 H1 (a_K_one (t := 1) (fun C z => by cases z) hK1 rfl) hP1 hD1 hS1)
      | char =>
        cases et
        exact va_newa (atype := .char) (ty := .char) (a0 := (n.toNatClampNeg, .inl (fun _ => 0))) (N' := n.toNatClampNeg) hx hb (hts _ (a_has_in a_arr_all.2.2)) rfl hE.1 hP hD hS hA (fun cA => rfl) g1 rfl (by show n.toNatClampNeg * 2 ≤ _; omega) hbc hbs hd (fun q c2 H1 hK1 hP1 hD1 hS1 => go q c2 H1 (a_K_one (t := 2) (fun C z => by cases z) hK1 rfl) hP1 hD1 hS1)
      | _ => cases et
    · cases hs
  · cases hs
set_option maxHeartbeats 4000000 in
theorem a_sim_alen {nL : Nat} (hC : a_Ctx M p R s m args meth c) (hE : a_Env X ad D cA a0 s) (hP : va_P D a_cl (a_ws ad cA h) H) (hD : va_D (a_A a0) (a_ws ad cA h)) (hS : va_S (a_A a0) s.heap H locs) (hl : a_L ad ls nL lv)
    (hd : decode (a_b M) pc = .ok (.arraylength, 1)) (hs : a_heap X M .arraylength pc lv st h = some x) (kk : a_KK p l e R s m args below meth c cells slots Q D cA a0 nL ad h x) : W p l e R s m args below meth c H locs cells slots Q (F0 m pc ls (st.map (a_cv ad))) := by
  obtain ⟨hx, hb, hr, hml, hown, hts, -, -, -, -, hcn, -⟩ := hC
  simp only [a_heap] at hs
  split at hs
  · next a r =>
    split at hs
    · next t n e2 =>
      split at hs
      · next e3 =>
        cases hs
        have ht : t < 3 := by simpa using e3
        have hat := a_ws_at (ad := ad) (cA := cA) e2
        exact va_alen hx hb hE.1 hP a t hat (a_tys_at t ht) rfl hd (kk.keep hP hD hS hl)
      · cases hs
    · cases hs
    · cases X with
      | none => cases hs
      | some Y =>
        obtain ⟨L, xs⟩ := Y
        simp only at hs
        split at hs
        · next e3 =>
          cases hs
          have e5 := Nat.eq_of_beq_eq_true e3
          subst e5
          obtain ⟨g1, g2, g3⟩ := hE.2.2.2.1 L xs rfl
          exact va_slen hx hb g1 g2 (Nat.not_le.mpr g3) hS hd (kk.keep hP hD hS hl)
        · cases hs
  · cases hs
set_option maxHeartbeats 4000000 in
theorem a_sim_ldc {i : Instr} {idx nL : Nat} (hi : i = .ldc idx ∨ i = .ldc_w idx ∨ i = .ldc2_w idx) (hC : a_Ctx M p R s m args meth c) (hE : a_Env X ad D cA a0 s) (hP : va_P D a_cl (a_ws ad cA h) H) (hD : va_D (a_A a0) (a_ws ad cA h)) (hS : va_S (a_A a0) s.heap H locs) (hl : a_L ad ls nL lv)
    (hd : decode (a_b M) pc = .ok (i, a_len i 0)) (hs : a_heap X M i pc lv st h = some x) (kk : a_KK p l e R s m args below meth c cells slots Q D cA a0 nL ad h x) : W p l e R s m args below meth c H locs cells slots Q (F0 m pc ls (st.map (a_cv ad))) := by
  obtain ⟨hx, hb, hr, hml, hown, hts, -, -, -, -, hcn, -⟩ := hC
  rcases hi with rfl | rfl | rfl
  · simp only [a_heap] at hs
    split at hs
    · next v z e1 =>
      cases hs
      have hck : a_ckL (a_cn M) (idx, .inl v, z) = true := List.all_eq_true.mp (a_ldc_all _ hcn) _ (a_look_mem e1)
      exact lv_ldc hx hb hown (hts _ (a_has_in hck)) hd (kk.keep hP hD hS hl)
    · next k tx z e1 =>
      cases hs
      have hck : a_ckL (a_cn M) (idx, .inr (k, tx), z) = true := List.all_eq_true.mp (a_ldc_all _ hcn) _ (a_look_mem e1)
      unfold a_ckL at hck
      simp only [Bool.and_eq_true, decide_eq_true_eq] at hck
      have h6 := hck.2
      rw [h6] at e1 hown
      exact va_ldcS hx hb hown (hE.2.2.2.2.2.1 idx k tx z e1) hd (kk.keep hP hD hS hl)
    · cases hs
  · simp only [a_heap] at hs
    split at hs
    · next v z e1 =>
      cases hs
      have hck : a_ckL (a_cn M) (idx, .inl v, z) = true := List.all_eq_true.mp (a_ldc_all _ hcn) _ (a_look_mem e1)
      exact lv_ldcw hx hb hown (hts _ (a_has_in hck)) hd (kk.keep hP hD hS hl)
    · cases hs
  · simp only [a_heap] at hs
    split at hs
    · next v z e1 =>
      cases hs
      have hck : a_has z (.constantLong (a_Cn (a_cn M)) idx v) = true := List.all_eq_true.mp (a_ldc2_all _ hcn) (idx, v, z) (a_look_mem e1)
      exact lv_ldc2 hx hb hown (hts _ (a_has_in hck)) hd (kk.keep hP hD hS hl)
    · cases hs
set_option maxHeartbeats 4000000 in
theorem a_sim_obj {idx : Nat} (hC : a_Ctx M p R s m args meth c) (hP : va_P D a_cl (a_ws ad cA h) H) (hD : va_D (a_A a0) (a_ws ad cA h)) (hS : va_S (a_A a0) s.heap H locs) (hl : a_L ad ls (a_mL M) lv)
    (hd : decode (a_b M) pc = .ok (.invokespecial idx, 3)) (hs : a_heap X M (.invokespecial idx) pc lv st h = some x) (kk : a_KK p l e R s m args below meth c cells slots Q D cA a0 (a_mL M) ad h x) : W p l e R s m args below meth c H locs cells slots Q (F0 m pc ls (st.map (a_cv ad))) := by
  obtain ⟨hx, hb, hr, hml, hown, hts, hfr, hlo, -, -, hcn, -⟩ := hC
  simp only [a_heap] at hs
  split at hs
  · next z a r e1 =>
    split at hs
    · next e2 =>
      cases hs
      simp only [Bool.and_eq_true, Nat.ble_eq] at e2
      obtain ⟨⟨g1, g2⟩, g3⟩ := e2
      obtain ⟨z1, z2, z3, z4⟩ := z
      have hck := a_cal_ok hcn e1
      unfold a_ckC at hck
      simp only at hck
      split at hck
      · next p0 p1 p2 heq =>
        simp only [Bool.and_eq_true] at hck
        obtain ⟨⟨w1, w2⟩, w3⟩ := hck
        refine W.objInit hx hb hown (hts _ (a_has_in w1)) (hts _ (a_has_in w2)) (hts _ (a_has_in w3)) rfl (by rw [hml]; exact hl.1) rfl hd (Nat.le_trans g2 hfr) ?_ ?_
        · rw [a_cv_wt]
          show 2 * 0 + _ + 12 ≤ _
          omega
        · exact W.eq (g2 := F0 m (pc + 3) ls (r.map (a_cv ad))) rfl (kk.keep hP hD hS hl)
      · next heq => simp at heq
      · next heq => simp at heq
      · next heq => simp at heq
      · exfalso
        split at hck
        · unfold a_ckC1 at hck
          simp at hck
        · cases hck
    · cases hs
  · cases hs
end AHEAP2
end
section
/-! runs of the small machine are runs of the machine -/
theorem a_heap_mono {X : a_X} {M : a_Mth} {i : Instr} {pc : Nat} {lv : a_LV} {st : List Value} {h : a_H} {x : Nat × a_LV × List Value × a_H} (hs : a_heap X M i pc lv st h = some x) : x.2.2.2.1 = h.1 ∨ (∃ y, x.2.2.2.1 = h.1 ++ [y]) ∨ ∃ (c ci k : Nat) (fs : List (Option (Option Nat))) (o : Option (Option Nat)), h.1[c]? = some (.inl (ci, fs)) ∧ x.2.2.2.1 = h.1.set c (.inl (ci, fs.set k o)) := by
  unfold a_heap at hs
  split at hs
  · unfold a_getf at hs
    repeat' split at hs
    all_goals first | (cases hs; done) | (cases hs; exact Or.inl rfl)
  · unfold a_putf at hs
    split at hs
    · repeat' split at hs
      all_goals first | (cases hs; done) | (cases hs; exact Or.inl rfl)
    · split at hs
      · split at hs
        · next e2 =>
          split at hs
          · split at hs
            · cases hs; exact Or.inr (Or.inr ⟨_, _, _, _, _, e2, rfl⟩)
            · cases hs
          · cases hs
        · cases hs
      · cases hs
    · cases hs
  · unfold a_ald at hs
    repeat' split at hs
    all_goals first | (cases hs; done) | (cases hs; exact Or.inl rfl)
  · unfold a_ald at hs
    repeat' split at hs
    all_goals first | (cases hs; done) | (cases hs; exact Or.inl rfl)
  · unfold a_ald at hs
    repeat' split at hs
    all_goals first | (cases hs; done) | (cases hs; exact Or.inl rfl)
  · unfold a_ast at hs
    repeat' split at hs
    all_goals first | (cases hs; done) | (cases hs; exact Or.inl rfl)
  · unfold a_ast at hs
    repeat' split at hs
    all_goals first | (cases hs; done) | (cases hs; exact Or.inl rfl)
  · unfold a_ast at hs
    repeat' split at hs
    all_goals first | (cases hs; done) | (cases hs; exact Or.inl rfl)
  · repeat' split at hs
    all_goals first | (cases hs; done) | (cases hs; exact Or.inl rfl)
  · repeat' split at hs
    all_goals first | (cases hs; done) | (cases hs; exact Or.inr (Or.inl ⟨_, rfl⟩))
  · repeat' split at hs
    all_goals first | (cases hs; done) | (cases hs; exact Or.inr (Or.inl ⟨_, rfl⟩))
  · repeat' split at hs
    all_goals first | (cases hs; done) | (cases hs; exact Or.inl rfl)
  · repeat' split at hs
    all_goals first | (cases hs; done) | (cases hs; exact Or.inl rfl)
  · repeat' split at hs
    all_goals first | (cases hs; done) | (cases hs; exact Or.inl rfl)
  · repeat' split at hs
    all_goals first | (cases hs; done) | (cases hs; exact Or.inl rfl)
  · split at hs
    · unfold a_acopy at hs
      repeat' split at hs
      all_goals first | (cases hs; done) | (cases hs; exact Or.inl rfl)
    · cases hs
  · split at hs
    · unfold a_str at hs
      repeat' split at hs
      all_goals first | (cases hs; done) | (cases hs; exact Or.inl rfl)
    · cases hs
  · cases hs
def a_le (h h' : a_H) : Prop := h.1.length ≤ h'.1.length ∧ a_szs h.1 ≤ a_szs h'.1
theorem a_le.rf {h : a_H} : a_le h h := ⟨Nat.le_refl _, Nat.le_refl _⟩
theorem a_le.tr {h h' h2 : a_H} (a : a_le h h') (b : a_le h' h2) : a_le h h2 := ⟨Nat.le_trans a.1 b.1, Nat.le_trans a.2 b.2⟩
theorem a_heap_le {X : a_X} {M : a_Mth} {i : Instr} {pc : Nat} {lv : a_LV} {st : List Value} {h : a_H} {x : Nat × a_LV × List Value × a_H} (hs : a_heap X M i pc lv st h = some x) : a_le h x.2.2.2 := by
  rcases a_heap_mono hs with e | ⟨y, e⟩ | ⟨c, ci, k, fs, o, e1, e⟩
  · exact ⟨by rw [e]; exact Nat.le_refl _, by rw [e]; exact Nat.le_refl _⟩
  · exact ⟨by rw [e]; simp, by rw [e, a_szs_push]; omega⟩
  · exact ⟨by rw [e, List.length_set]; exact Nat.le_refl _, by rw [e, a_szs_set e1]; exact Nat.le_refl _⟩
theorem arun_le {X : a_X} : ∀ (n : Nat) (M : a_Mth) (pc : Nat) (lv : a_LV) (st : List Value) (h : a_H) (r : Option Value) (h' : a_H), arun X n M pc lv st h = some (r, h') → a_le h h' := by
  intro n
  induction n with
  | zero => intro M pc lv st h r h' hr; cases hr
  | succ n ih =>
    intro M pc lv st h r h' hr
    unfold arun at hr
    split at hr
    · cases hr
    · split at hr
      · cases hr
      · split at hr
        · split at hr
          · split at hr
            · cases hr; exact a_le.rf
            · cases hr
          · cases hr
        · split at hr
          · cases hr; exact a_le.rf
          · cases hr
        · split at hr
          · cases hr; exact a_le.rf
          · cases hr
        · split at hr
          · split at hr
            · cases hr
            · next r1 h1 e1 =>
              split at hr
              · exact (ih _ _ _ _ _ _ _ e1).tr (ih _ _ _ _ _ _ _ hr)
              · cases hr
          · split at hr
            · exact ih _ _ _ _ _ _ _ hr
            · split at hr
              · next pc' lv' st' h1 e1 => exact (a_heap_le e1).tr (ih _ _ _ _ _ _ _ hr)
              · cases hr
def a_Ret (M : a_Mth) (r : Option Value) (i : Instr) : Prop := (i = .ireturn ∧ ∃ (v : Int32) (ty : FieldType), r = some (.int v) ∧ a_rt M = some ty ∧ a_fit ty v = true) ∨ (i = .return_ ∧ r = none ∧ a_rt M = none) ∨ (i = .areturn ∧ ∃ (q : Nat) (nm : String), r = some (.ref q) ∧ a_rt M = some (.object nm))
theorem a_at_dec {M : a_Mth} {pc : Nat} {i : Instr} {ln : Nat} (hck : a_ckI (a_b M) (a_il M) = true) (h : a_at M pc = some (i, ln)) : decode (a_b M) pc = .ok (i, ln) := by
  have := List.all_eq_true.mp hck _ (a_look_mem h)
  exact of_decide_eq_true this
/-! the callee's locals -/
theorem a_get_cons0 (o : Option Value) (l : a_LV) : a_get (o :: l) 0 = o := rfl
theorem a_get_cons1 (o : Option Value) (l : a_LV) (i : Nat) : a_get (o :: l) (i + 1) = a_get l i := by simp [a_get]
theorem a_ent_args (ad : Nat → Nat) : ∀ (as : List Value) (k i : Nat) (v : Value), a_get (a_ent as) i = some v → (k + i, a_cv ad v) ∈ lv_args k (as.map (a_cv ad)) := by
  intro as
  induction as with
  | nil => intro k i v h; simp [a_ent, a_get] at h
  | cons w r ih =>
    intro k i v h
    rw [List.map_cons]
    simp only [lv_args, a_cv_cat]
    simp only [a_ent] at h
    split at h
    · next e =>
      have e := Nat.eq_of_beq_eq_true e
      rw [if_pos e]
      match i, h with
      | 0, h =>
        rw [a_get_cons0] at h
        cases h
        exact List.mem_cons_self
      | 1, h =>
        rw [a_get_cons1, a_get_cons0] at h
        cases h
      | i + 2, h =>
        rw [a_get_cons1, a_get_cons1] at h
        have := ih (k + 2) i v h
        rw [show k + 2 + i = k + (i + 2) by omega] at this
        exact List.mem_cons_of_mem _ this
    · next e =>
      have e : ¬ w.category = 2 := fun z => by rw [z] at e; exact absurd e (by decide)
      rw [if_neg e]
      match i, h with
      | 0, h =>
        rw [a_get_cons0] at h
        cases h
        exact List.mem_cons_self
      | i + 1, h =>
        rw [a_get_cons1] at h
        have := ih (k + 1) i v h
        rw [show k + 1 + i = k + (i + 1) by omega] at this
        exact List.mem_cons_of_mem _ this
theorem a_ent_len (ad : Nat → Nat) : ∀ (as : List Value), (lg_sl (as.map (a_cv ad))).length = (a_ent as).length := by
  intro as
  induction as with
  | nil => rfl
  | cons w r ih =>
    have e1 : lg_sl ((w :: r).map (a_cv ad)) = (if (a_cv ad w).category = 2 then [.val (a_cv ad w), .second] else [.val (a_cv ad w)]) ++ lg_sl (r.map (a_cv ad)) := by simp [lg_sl]
    rw [e1, List.length_append, ih, a_cv_cat]
    simp only [a_ent]
    split
    · next e => simp [e]; omega
    · next e =>
      have e2 : Nat.beq w.category 2 = false := by
        cases hb : Nat.beq w.category 2 with
        | false => rfl
        | true => exact absurd (Nat.eq_of_beq_eq_true hb) e
      simp [e2, Nat.add_comm]
theorem a_get_app {l r : a_LV} {i : Nat} {v : Value} (h : a_get (l ++ r) i = some v) (hr : ∀ j, a_get r j = none) : a_get l i = some v := by
  unfold a_get at h ⊢
  by_cases hi : i < l.length
  · rw [List.getElem?_append_left hi] at h
    exact h
  · have := hr (i - l.length)
    unfold a_get at this
    rw [List.getElem?_append_right (by omega)] at h
    rw [h] at this
    cases this
theorem a_get_rep (n i : Nat) : a_get (List.replicate n none) i = none := by
  unfold a_get
  cases e : (List.replicate n (none : Option Value))[i]? with
  | none => rfl
  | some o =>
    have := List.mem_of_getElem? e
    exact (List.eq_of_mem_replicate this)
theorem a_entry {M : a_Mth} {as : List Value} {ad : Nat → Nat} (h : (a_ent as).length ≤ a_mL M) : a_L ad ((lg_sl (as.map (a_cv ad)) ++ List.replicate (a_mL M - (lg_sl (as.map (a_cv ad))).length) Slot.unset).toArray) (a_mL M) (a_loc M as) := by
  have hl := lv_entry (as.map (a_cv ad)) (n := a_mL M) (by rw [a_ent_len]; exact h)
  refine ⟨hl.1, hl.2.1, ?_, fun i v hv => ?_⟩
  · simp [a_loc]
    omega
  · have := a_ent_args ad as 0 i v (a_get_app hv (a_get_rep _))
    rw [Nat.zero_add] at this
    exact hl.2.2 _ this
def a_PB (X : a_X) (ad : Nat → Nat) (D : va_G) (cA : Nat → ClassId) (a0 : Nat) (h : a_H) : State → Prop := fun U => a_Env X ad D cA a0 U ∧ va_P D a_cl (a_ws ad cA h) U.heap ∧ va_D (a_A a0) (a_ws ad cA h)
def a_QB (ad : Nat → Nat) (D : va_G) (cA : Nat → ClassId) (a0 : Nat) (r : Option Value) (h h1 : a_H) : Array Value → State → Outcome → State → Prop := fun _ st oc t => (∃ ad' : Nat → Nat, oc = .returned (r.map (a_cv ad')) ∧ va_P D a_cl (a_ws ad' cA h1) t.heap ∧ va_D (a_A a0) (a_ws ad' cA h1) ∧ a_ag h.1.length ad ad' ∧ (h1.1.length = h.1.length → ad' = ad)) ∧ va_F (a_A a0) st t
def a_rm (M : a_Mth) (h h1 : a_H) : Room := { frames := a_fr M, cells := h1.1.length - h.1.length, slots := a_szs h1.1 - a_szs h.1, locals := a_lo M }
def a_mws (M : a_Mth) : List Cond := .code (a_y M) (a_b M) (a_mL M) (a_rt M) :: a_LT
/-- what a run of the small machine is good for -/
def a_Good (X : a_X) (l : Launch) (M : a_Mth) (pc : Nat) (lv : a_LV) (st : List Value) (h : a_H) (r : Option Value) (h' : a_H) : Prop :=
  ∀ (p : Program) (e : Env) (R : Room) (s : State) (m : MethodId) (args : Array Value) (below : List Frame) (meth : Method) (c : Code) (H : Heap) (locs : List Loc) (ls : Array Slot) (cells slots : Nat) (Q : State → Prop) (ad : Nat → Nat) (D : va_G) (cA : Nat → ClassId) (a0 : Nat),
    a_Ctx M p R s m args meth c → a_Env X ad D cA a0 s → va_P D a_cl (a_ws ad cA h) H → va_D (a_A a0) (a_ws ad cA h) → va_S (a_A a0) s.heap H locs → a_L ad ls (a_mL M) lv → cells + (h'.1.length - h.1.length) ≤ R.cells → slots + (a_szs h'.1 - a_szs h.1) ≤ R.slots →
    (∀ (i : Instr) (pc2 : Nat) (ls2 : Array Slot) (ad' : Nat → Nat) (H' : Heap) (locs' : List Loc), decode (a_b M) pc2 = .ok (i, 1) → a_Ret M r i → va_P D a_cl (a_ws ad' cA h') H' → va_D (a_A a0) (a_ws ad' cA h') → va_S (a_A a0) s.heap H' locs' → a_ag h.1.length ad ad' → (h'.1.length = h.1.length → ad' = ad) →
      W p l e R s m args below meth c H' locs' (cells + (h'.1.length - h.1.length)) (slots + (a_szs h'.1 - a_szs h.1)) Q (F0 m pc2 ls2 (r.toList.map (a_cv ad')))) →
    W p l e R s m args below meth c H locs cells slots Q (F0 m pc ls (st.map (a_cv ad)))
theorem a_ok_W {M : a_Mth} (h : a_ckW M = true) : Cond.code (a_y M) (a_b M) (a_mL M) (a_rt M) ∈ a_LT ∧ plainName (a_y M).cls = true ∧ (a_y M).cls = a_Cn (a_cn M) := by
  simp only [a_ckW, Bool.and_eq_true, decide_eq_true_eq] at h
  exact ⟨a_has_in h.1.1.1, h.1.1.2, h.1.2⟩
theorem a_cn_lt {M : a_Mth} (h : a_ckW M = true) : a_cn M < 13 := by
  simp only [a_ckW, Bool.and_eq_true, decide_eq_true_eq] at h
  simpa using h.2
set_option maxHeartbeats 4000000 in
theorem a_met {X : a_X} {l : Launch} {M : a_Mth} {as : List Value} {h h1 : a_H} {r : Option Value} (hok : a_okM M) (hcn : a_cn M < 13) (hlen : (a_ent as).length ≤ a_mL M) (ih : a_Good X l M 0 (a_loc M as) [] h r h1) (ad : Nat → Nat) (D : va_G) (cA : Nat → ClassId) (a0 : Nat) :
    Met l (a_y M) (a_mws M) (a_rm M h h1) (va_Pc (as.map (a_cv ad)) (a_PB X ad D cA a0 h)) (a_QB ad D cA a0 r h h1) (h1.1.length - h.1.length) (a_szs h1.1 - a_szs h.1) (a_A a0) := by
  obtain ⟨w1, w2, w3⟩ := a_ok_W hok.2
  refine Met.ofW (cc := a_b M) (maxL := a_mL M) (ret := a_rt M) w2 rfl ?_
  intro p e s m args below meth c s₁ B hml hv
  obtain ⟨rfl, hE, hP, hD⟩ := hv
  have hts0 := atoms_spec (ws := a_mws M) B.pre
  have hown : s.vm.findClass (a_y M).cls = some m.cls := findClass_of_methodNamed B.named
  rw [w3] at hown
  have hC : a_Ctx M p (headSpec (a_mws M) (a_rm M h h1)).room s m (as.map (a_cv ad)).toArray meth c :=
    ⟨B.exec, B.bytes, B.returns, hml, hown, fun w hw => hts0 w (List.mem_cons_of_mem _ hw), Nat.le_refl _, Nat.le_refl _, fun z => by rw [(name_of_methodNamed B.named B.method).1]; exact z, hok.1, hcn, B.notSynchronized⟩
  have hl := a_entry (ad := ad) hlen
  rw [lg_entry_eq]
  generalize ((lg_sl (as.map (a_cv ad)) ++ List.replicate (a_mL M - (lg_sl (as.map (a_cv ad))).length) Slot.unset).toArray) = ls at hl ⊢
  have hlocks := B.notSynchronized
  refine ih p e _ s m _ below meth c s.heap [] ls 0 0 _ ad D cA a0 hC hE hP hD va_S.rf hl (by rw [Nat.zero_add]; exact Nat.le_refl _) (by rw [Nat.zero_add]; exact Nat.le_refl _) ?_
  intro i pc2 ls2 ad' H' locs' hd hR hP' hD' hS' hag heq
  rw [Nat.zero_add, Nat.zero_add]
  rcases hR with ⟨rfl, v, ty, rfl, ht, hf⟩ | ⟨rfl, rfl, ht⟩ | ⟨rfl, q, nm, rfl, ht⟩
  · exact W.zret (v := v) (ty := ty) B.exec B.bytes (by rw [B.returns, ht]) (a_fit_ok hf).1 (fun t ht hW => ⟨⟨ad', rfl, by rw [ht]; exact hP', hD', hag, heq⟩, hS'.F ht⟩) hS'.2.2 hd hlocks
  · exact W.vret B.exec B.bytes (by rw [B.returns, ht]) (fun t ht hW => ⟨⟨ad', rfl, by rw [ht]; exact hP', hD', hag, heq⟩, hS'.F ht⟩) hS'.2.2 hd hlocks
  · exact W.aret (v := .ref (ad' q)) B.exec B.bytes (by rw [B.returns, ht]) (Or.inl ⟨nm, rfl⟩) (Or.inr ⟨_, rfl⟩) (fun t ht hW => ⟨⟨ad', rfl, by rw [ht]; exact hP', hD', hag, heq⟩, hS'.F ht⟩) hS'.2.2 hd hlocks
end
section
theorem a_ck0 {cn idx na : Nat} {host : String} {M : a_Mth} {ps : List (Nat × Nat)} (h : a_ckC1 cn idx 0 M na ps host = true) : ∃ p0 p1 p2 p3 : Nat × Nat, (a_has p0 (.methodLink (a_Cn cn) idx (a_y M)) && a_has p1 (.instanceMethod (a_y M)) && a_has p2 (.selects (a_y M).cls (a_y M) (a_y M)) && a_has p3 (.initialized (a_y M).cls) && a_par (a_y M) na && (match a_cl[a_cn M]? with
    | some q => decide (q.1 = (a_y M).cls)
    | none => false)) = true := by
  match ps, h with
  | [], h => exact Bool.noConfusion (show false = true from h)
  | [_], h => exact Bool.noConfusion (show false = true from h)
  | [_, _], h => exact Bool.noConfusion (show false = true from h)
  | [_, _, _], h => exact Bool.noConfusion (show false = true from h)
  | [p0, p1, p2, p3], h => exact ⟨p0, p1, p2, p3, h⟩
  | _ :: _ :: _ :: _ :: _ :: _, h => exact Bool.noConfusion (show false = true from h)
theorem a_ck1 {cn idx na : Nat} {host : String} {M : a_Mth} {ps : List (Nat × Nat)} (h : a_ckC1 cn idx 1 M na ps host = true) : ∃ p0 p1 p2 : Nat × Nat, (a_has p0 (.methodLink (a_Cn cn) idx (a_y M)) && a_has p1 (.static (a_y M)) && a_has p2 (.initialized (a_y M).cls) && a_par (a_y M) na) = true := by
  match ps, h with
  | [], h => exact Bool.noConfusion (show false = true from h)
  | [_], h => exact Bool.noConfusion (show false = true from h)
  | [_, _], h => exact Bool.noConfusion (show false = true from h)
  | [p0, p1, p2], h => exact ⟨p0, p1, p2, h⟩
  | _ :: _ :: _ :: _ :: _, h => exact Bool.noConfusion (show false = true from h)
theorem a_ck2 {cn idx na : Nat} {host : String} {M : a_Mth} {ps : List (Nat × Nat)} (h : a_ckC1 cn idx 2 M na ps host = true) : ∃ p0 p1 p2 : Nat × Nat, (a_hasN p0 (.methodLinkNest (a_Cn cn) idx (a_y M) host) && a_has p1 (.static (a_y M)) && a_has p2 (.initialized (a_y M).cls) && a_par (a_y M) na) = true := by
  match ps, h with
  | [], h => exact Bool.noConfusion (show false = true from h)
  | [_], h => exact Bool.noConfusion (show false = true from h)
  | [_, _], h => exact Bool.noConfusion (show false = true from h)
  | [p0, p1, p2], h => exact ⟨p0, p1, p2, h⟩
  | _ :: _ :: _ :: _ :: _, h => exact Bool.noConfusion (show false = true from h)
theorem a_ck3 {cn idx na : Nat} {host : String} {M : a_Mth} {ps : List (Nat × Nat)} (h : a_ckC1 cn idx 3 M na ps host = true) : ∃ p0 p1 p2 : Nat × Nat, (a_has p0 (.methodLink (a_Cn cn) idx (a_y M)) && a_has p1 (.instanceMethod (a_y M)) && a_has p2 (.initialized (a_y M).cls) && a_par (a_y M) na && decide ((a_y M).name = "<init>") && decide (a_rt M = none)) = true := by
  match ps, h with
  | [], h => exact Bool.noConfusion (show false = true from h)
  | [_], h => exact Bool.noConfusion (show false = true from h)
  | [_, _], h => exact Bool.noConfusion (show false = true from h)
  | [p0, p1, p2], h => exact ⟨p0, p1, p2, h⟩
  | _ :: _ :: _ :: _ :: _, h => exact Bool.noConfusion (show false = true from h)
theorem a_ck4 {cn idx na : Nat} {host : String} {M : a_Mth} {ps : List (Nat × Nat)} (h : a_ckC1 cn idx 4 M na ps host = true) : ∃ p0 p1 p2 : Nat × Nat, (a_hasN p0 (.methodLinkNest (a_Cn cn) idx (a_y M) host) && a_has p1 (.instanceMethod (a_y M)) && a_has p2 (.initialized (a_y M).cls) && a_par (a_y M) na && decide ((a_y M).name = "<init>") && decide (a_rt M = none)) = true := by
  match ps, h with
  | [], h => exact Bool.noConfusion (show false = true from h)
  | [_], h => exact Bool.noConfusion (show false = true from h)
  | [_, _], h => exact Bool.noConfusion (show false = true from h)
  | [p0, p1, p2], h => exact ⟨p0, p1, p2, h⟩
  | _ :: _ :: _ :: _ :: _, h => exact Bool.noConfusion (show false = true from h)
section AMAIN
variable {p : Program} {l : Launch} {e : Env} {R : Room} {s : State} {m : MethodId} {args : Array Value} {below : List Frame} {meth : Method} {c : Code} {H : Heap} {locs : List Loc} {cells slots : Nat} {Q : State → Prop}
variable {pc : Nat} {ls : Array Slot}
variable {X : a_X} {ad : Nat → Nat} {D : va_G} {cA : Nat → ClassId} {a0 : Nat} {M : a_Mth} {lv : a_LV} {st : List Value} {h : a_H}
theorem a_callW {mc ms : Nat} {r : Option Value} {h1 : a_H} {rest st0 : List Value} {a : Array Value} (hr : va_Run p l e R s m args below meth c H locs cells slots mc ms (F0 m pc ls st0) rest (a_QB ad D cA a0 r h h1 a) (a_A a0)) (hS : va_S (a_A a0) s.heap H locs)
    (kk : ∀ (ad' : Nat → Nat) (H1 : Heap) (locs1 : List Loc), va_P D a_cl (a_ws ad' cA h1) H1 → va_D (a_A a0) (a_ws ad' cA h1) → a_ag h.1.length ad ad' → (h1.1.length = h.1.length → ad' = ad) → va_S (a_A a0) s.heap H1 locs1 → W p l e R s m args below meth c H1 locs1 (cells + mc) (slots + ms) Q (F0 m (pc + 3) ls ((r.map (a_cv ad')).toList ++ rest))) : W p l e R s m args below meth c H locs cells slots Q (F0 m pc ls st0) := by
  intro T hT X
  obtain ⟨v, st₀, t, T', L, h0, X', hL, e1, e2, ⟨⟨ad', hv, hp, hdd, hag, heq⟩, hz, hk⟩, st⟩ := hr T hT X
  cases hv
  rw [h0] at hz hk
  obtain ⟨t2, a1, b1⟩ := kk ad' T'.heap (locs ++ L) (by rw [e1]; exact hp) hdd hag heq
    ⟨Nat.le_trans hS.1 (by rw [e1]; exact hz), fun q h1 h2 => by rw [e1, hk q (Nat.lt_of_lt_of_le h1 hS.1) h2]; exact hS.2.1 q h1 h2, fun q hq => by
      rcases List.mem_append.mp hq with h | h
      · exact hS.2.2 q h
      · exact hL q h⟩ T' rfl X'
  exact ⟨t2, st t2 a1, b1⟩
theorem a_blind {av : List Value} : FrameBlind (va_Pc av (a_PB X ad D cA a0 h)) := fun _ _ _ _ q => ⟨q.1, q.2.1.same rfl rfl, q.2.2.1, q.2.2.2⟩
theorem a_PB_at {U : State} (hE : a_Env X ad D cA a0 s) (hP : va_P D a_cl (a_ws ad cA h) H) (hD : va_D (a_A a0) (a_ws ad cA h)) (hS : va_S (a_A a0) s.heap H locs) (hU : U.heap = H) (hW : s.WarmedH U.vm) : a_PB X ad D cA a0 h U := by
  subst hU
  exact ⟨hE.to hW hS, hP, hD⟩
theorem a_par_ok {y : MethodName} {na : Nat} (h : a_par y na = true) : y.cls ≠ "java/lang/invoke/MethodHandle" ∧ y.cls ≠ "java/lang/invoke/VarHandle" ∧ (parseMethodDescriptor y.desc).map (fun d => d.parameters.length) = some na := by
  simp only [a_par, Bool.and_eq_true, decide_eq_true_eq] at h
  exact ⟨h.1.1, h.1.2, h.2⟩
theorem a_mws_good (hok : a_ckW M = true) : ∀ w ∈ a_mws M, w ∈ a_LT := fun w hw => (List.mem_cons.mp hw).elim (fun q => q ▸ (a_ok_W hok).1) (fun q => q)
theorem a_app_good {ws1 ws2 : List Cond} (h1 : ∀ w ∈ ws1, w ∈ a_LT) (h2 : ∀ w ∈ ws2, w ∈ a_LT) : ∀ w ∈ ws1 ++ ws2, w ∈ a_LT := fun w hw => (List.mem_append.mp hw).elim (h1 w) (h2 w)
theorem a_rooms_ok {M M' : a_Mth} {as rest : List Value} (h : a_rooms M M' as rest = true) : a_fr M' + 1 ≤ a_fr M ∧ 8 + (a_mL M' + 11) + a_lo M' ≤ a_lo M ∧ a_wt rest ≤ 8 ∧ (a_ent as).length ≤ a_mL M' := by
  simp only [a_rooms, Bool.and_eq_true, Nat.ble_eq] at h
  exact ⟨h.1.1.1, h.1.1.2, h.1.2, h.2⟩
theorem a_drop_cons {α : Type} {st rest : List α} {na : Nat} {v : α} (h : st.drop na = v :: rest) : st = st.take na ++ v :: rest ∧ (st.take na).length = na := by
  refine ⟨by rw [← h, List.take_append_drop], ?_⟩
  have : na < st.length := by
    have h2 := congrArg List.length h
    simp at h2
    omega
  simp
  omega
set_option maxHeartbeats 8000000 in
/-- a call, and what goes on behind it -/
theorem a_sim_call {i : Instr} {M' : a_Mth} {as rest : List Value} {r1 : Option Value} {h1 : a_H} (hC : a_Ctx M p R s m args meth c) (hE : a_Env X ad D cA a0 s) (hP : va_P D a_cl (a_ws ad cA h) H) (hD : va_D (a_A a0) (a_ws ad cA h)) (hS : va_S (a_A a0) s.heap H locs) (hl : a_L ad ls (a_mL M) lv)
    (hd : decode (a_b M) pc = .ok (i, a_len i 3)) (hs : a_call M i st h.1 = some (M', as, rest)) (ih : a_cn M' < 13 → (a_ent as).length ≤ a_mL M' → a_okM M' → Met l (a_y M') (a_mws M') (a_rm M' h h1) (va_Pc (as.map (a_cv ad)) (a_PB X ad D cA a0 h)) (a_QB ad D cA a0 r1 h h1) (h1.1.length - h.1.length) (a_szs h1.1 - a_szs h.1) (a_A a0))
    (hbc : cells + (h1.1.length - h.1.length) ≤ R.cells) (hbs : slots + (a_szs h1.1 - a_szs h.1) ≤ R.slots)
    (kk : ∀ (ad' : Nat → Nat) (H1 : Heap) (locs1 : List Loc), va_P D a_cl (a_ws ad' cA h1) H1 → va_D (a_A a0) (a_ws ad' cA h1) → a_ag h.1.length ad ad' → (h1.1.length = h.1.length → ad' = ad) → va_S (a_A a0) s.heap H1 locs1 → W p l e R s m args below meth c H1 locs1 (cells + (h1.1.length - h.1.length)) (slots + (a_szs h1.1 - a_szs h.1)) Q (F0 m (pc + 3) ls ((r1.map (a_cv ad')).toList ++ rest.map (a_cv ad)))) : W p l e R s m args below meth c H locs cells slots Q (F0 m pc ls (st.map (a_cv ad))) := by
  obtain ⟨hx, hb, hr, hml, hown, hts, hfr, hlo, -, -, hcn, -⟩ := hC
  unfold a_call at hs
  split at hs
  · next idx =>
    split at hs
    · next k na ps e1 =>
      split at hs
      · next N a rst eM eD =>
        split at hs
        · next ci fs eS =>
          split at hs
          · next eB =>
            simp only [Option.some.injEq, Prod.mk.injEq] at hs
            obtain ⟨hs1, hs2, hs3⟩ := hs
            subst hs1; subst hs3
            simp only [Bool.and_eq_true] at eB
            have eci := Nat.eq_of_beq_eq_true eB.1
            obtain ⟨g1, g2, g3, g4⟩ := a_rooms_ok eB.2
            obtain ⟨hst, hna⟩ := a_drop_cons eD
            have hokN := a_M_ok eM
            obtain ⟨w1, w2, w3⟩ := a_ok_W hokN.2
            have hck := a_cal_ok hcn e1
            unfold a_ckC at hck
            simp only at hck
            rw [eM] at hck
            try simp only at hck
            obtain ⟨p0, p1, p2, p3, hck⟩ := a_ck0 hck
            · simp only [Bool.and_eq_true] at hck
              obtain ⟨⟨⟨⟨⟨c0, c1⟩, c2⟩, c3⟩, c4⟩, c5⟩ := hck
              have hat := a_ws_at (ad := ad) (cA := cA) eS
              split at c5
              · next q eq =>
                have hq := of_decide_eq_true c5
                rw [← eci] at eq
                have hcn2 : a_cn N < 13 := by have := a_cl_lt eq; omega
                have hM := ih hcn2 (by rw [← hs2]; exact g4) hokN
                rw [← hs2] at hM
                have hrecv := va_recv hE.1 hP eq hat
                rw [hq] at hrecv
                refine a_callW (va_runV (As := (st.take na).reverse.map (a_cv ad)) (rest := rst.map (a_cv ad)) ⟨hx, hb, hml, hown, hts⟩ hM (cwV na hts (a_good ?_) rfl rfl rfl ⟨rfl, a_par_ok c4⟩ ⟨Nat.le_trans g1 hfr, Nat.le_trans g2 hlo⟩) ⟨a_blind, hrecv, fun U hU hW => ⟨by simp [a_cv], a_PB_at hE hP hD hS hU hW⟩⟩ rfl (by rw [List.length_map, List.length_reverse]; exact hna) hl.1 ?_ ?_ hd ⟨hbc, hbs⟩) hS kk
                · refine a_app_good (fun w hw => ?_) (a_mws_good hokN.2)
                  simp only [List.mem_cons, List.not_mem_nil, or_false] at hw
                  rcases hw with rfl | rfl | rfl | rfl
                  · exact a_has_in c0
                  · exact a_has_in c1
                  · exact a_has_in c2
                  · exact a_has_in c3
                · show st.map (a_cv ad) = _
                  conv => lhs; rw [hst]
                  simp [a_cv]
                · refine lv_room ?_
                  rw [a_cv_wt]
                  exact g3
              · cases c5
          · cases hs
        · cases hs
      · cases hs
    · cases hs
  · next idx =>
    split at hs
    · next kind k na ps e1 =>
      split at hs
      · next eK =>
        split at hs
        · next N eM =>
          split at hs
          · next eB =>
            simp only [Option.some.injEq, Prod.mk.injEq] at hs
            obtain ⟨hs1, hs2, hs3⟩ := hs
            subst hs1; subst hs3
            simp only [Bool.and_eq_true] at eB
            have hna := Nat.eq_of_beq_eq_true eB.1
            obtain ⟨g1, g2, g3, g4⟩ := a_rooms_ok eB.2
            have hokN := a_M_ok eM
            obtain ⟨w1, w2, w3⟩ := a_ok_W hokN.2
            have hcn2 : a_cn N < 13 := a_cn_lt hokN.2
            have hM := ih hcn2 (by rw [← hs2]; exact g4) hokN
            rw [← hs2] at hM
            have hck := a_cal_ok hcn e1
            have hstk : (F0 m pc ls (st.map (a_cv ad))).stack = ((st.take na).reverse.map (a_cv ad)).reverse ++ (st.drop na).map (a_cv ad) := by
              show st.map (a_cv ad) = _
              rw [← List.map_reverse, List.reverse_reverse, ← List.map_append, List.take_append_drop]
            have hroom : 2 * (F0 m pc ls (st.map (a_cv ad))).monitorRoom + (((st.drop na).map (a_cv ad)).map fun v => v.category).sum ≤ 8 := by
              refine lv_room ?_
              rw [a_cv_wt]
              exact g3
            simp only [Bool.or_eq_true] at eK
            rcases eK with eK | eK
            · have eK := Nat.eq_of_beq_eq_true eK
              subst eK
              unfold a_ckC at hck
              simp only at hck
              rw [eM] at hck
              try simp only at hck
              obtain ⟨p0, p1, p2, hck⟩ := a_ck1 hck
              · skip
                simp only [Bool.and_eq_true] at hck
                obtain ⟨⟨⟨c0, c1⟩, c2⟩, c4⟩ := hck
                refine a_callW (va_runS (As := (st.take na).reverse.map (a_cv ad)) (rest := (st.drop na).map (a_cv ad)) ⟨hx, hb, hml, hown, hts⟩ hM (va_cwS na hts (a_good ?_) rfl rfl rfl (a_par_ok c4) ⟨Nat.le_trans g1 hfr, Nat.le_trans g2 hlo⟩) ⟨a_blind, fun U hU hW => ⟨rfl, a_PB_at hE hP hD hS hU hW⟩⟩ rfl (by rw [List.length_map, List.length_reverse]; exact hna) hl.1 hstk hroom hd ⟨hbc, hbs⟩) hS kk
                refine a_app_good (fun w hw => ?_) (a_mws_good hokN.2)
                simp only [List.mem_cons, List.not_mem_nil, or_false] at hw
                rcases hw with rfl | rfl | rfl
                · exact a_has_in c0
                · exact a_has_in c1
                · exact a_has_in c2
            · have eK := Nat.eq_of_beq_eq_true eK
              subst eK
              unfold a_ckC at hck
              simp only at hck
              rw [eM] at hck
              try simp only at hck
              obtain ⟨p0, p1, p2, hck⟩ := a_ck2 hck
              · skip
                simp only [Bool.and_eq_true] at hck
                obtain ⟨⟨⟨c0, c1⟩, c2⟩, c4⟩ := hck
                exact a_callW (va_runSN (As := (st.take na).reverse.map (a_cv ad)) (rest := (st.drop na).map (a_cv ad)) ⟨hx, hb, hml, hown, hts⟩ hM ⟨va_cnB na hts (a_good (a_mws_good hokN.2)) rfl rfl rfl (hE.2.2.1 _ (a_hasN_in c0) rfl) (hts _ (a_has_in c2)) (a_par_ok c4) ⟨Nat.le_trans g1 hfr, Nat.le_trans g2 hlo⟩, hts _ (a_has_in c1), trivial⟩ ⟨a_blind, fun U hU hW => ⟨rfl, a_PB_at hE hP hD hS hU hW⟩⟩ rfl (by rw [List.length_map, List.length_reverse]; exact hna) hl.1 hstk hroom hd ⟨hbc, hbs⟩) hS kk
          · cases hs
        · cases hs
      · cases hs
    · cases hs
  · next idx =>
    split at hs
    · next kind k na ps e1 =>
      split at hs
      · next eK =>
        split at hs
        · next N a rst eM eD =>
          split at hs
          · next eB =>
            simp only [Option.some.injEq, Prod.mk.injEq] at hs
            obtain ⟨hs1, hs2, hs3⟩ := hs
            subst hs1; subst hs3
            obtain ⟨g1, g2, g3, g4⟩ := a_rooms_ok eB
            obtain ⟨hst, hna⟩ := a_drop_cons eD
            have hokN := a_M_ok eM
            obtain ⟨w1, w2, w3⟩ := a_ok_W hokN.2
            have hcn2 : a_cn N < 13 := a_cn_lt hokN.2
            have hM := ih hcn2 (by rw [← hs2]; exact g4) hokN
            rw [← hs2] at hM
            have hck := a_cal_ok hcn e1
            have hstk : (F0 m pc ls (st.map (a_cv ad))).stack = ((st.take na).reverse.map (a_cv ad)).reverse ++ .ref (ad a) :: rst.map (a_cv ad) := by
              show st.map (a_cv ad) = _
              conv => lhs; rw [hst]
              simp [a_cv]
            have hroom : 2 * (F0 m pc ls (st.map (a_cv ad))).monitorRoom + ((rst.map (a_cv ad)).map fun v => v.category).sum ≤ 8 := by
              refine lv_room ?_
              rw [a_cv_wt]
              exact g3
            simp only [Bool.or_eq_true] at eK
            rcases eK with eK | eK
            · have eK := Nat.eq_of_beq_eq_true eK
              subst eK
              unfold a_ckC at hck
              simp only at hck
              rw [eM] at hck
              try simp only at hck
              obtain ⟨p0, p1, p2, hck⟩ := a_ck3 hck
              · skip
                simp only [Bool.and_eq_true, decide_eq_true_eq] at hck
                obtain ⟨⟨⟨⟨⟨c0, c1⟩, c2⟩, c4⟩, c5⟩, c6⟩ := hck
                have hmw : a_mws N = Cond.code (a_y N) (a_b N) (a_mL N) none :: a_LT := by unfold a_mws; rw [c6]
                exact a_callW (va_runI (As := (st.take na).reverse.map (a_cv ad)) (rest := rst.map (a_cv ad)) ⟨hx, hb, hml, hown, hts⟩ hM (cwI na hts (a_good (a_mws_good hokN.2)) hmw rfl rfl (hts _ (a_has_in c2)) (hts _ (a_has_in c0)) (hts _ (a_has_in c1)) c5 (a_par_ok c4) ⟨Nat.le_trans g1 hfr, Nat.le_trans g2 hlo⟩) ⟨a_blind, fun U hU hW => ⟨by simp [a_cv], a_PB_at hE hP hD hS hU hW⟩⟩ rfl (by rw [List.length_map, List.length_reverse]; exact hna) hl.1 hstk hroom hd ⟨hbc, hbs⟩) hS kk
            · have eK := Nat.eq_of_beq_eq_true eK
              subst eK
              unfold a_ckC at hck
              simp only at hck
              rw [eM] at hck
              try simp only at hck
              obtain ⟨p0, p1, p2, hck⟩ := a_ck4 hck
              · skip
                simp only [Bool.and_eq_true, decide_eq_true_eq] at hck
                obtain ⟨⟨⟨⟨⟨c0, c1⟩, c2⟩, c4⟩, c5⟩, c6⟩ := hck
                have hmw : a_mws N = Cond.code (a_y N) (a_b N) (a_mL N) none :: a_LT := by unfold a_mws; rw [c6]
                exact a_callW (va_runIN (As := (st.take na).reverse.map (a_cv ad)) (rest := rst.map (a_cv ad)) ⟨hx, hb, hml, hown, hts⟩ hM ⟨va_cnB na hts (a_good (a_mws_good hokN.2)) hmw rfl rfl (hE.2.2.1 _ (a_hasN_in c0) rfl) (hts _ (a_has_in c2)) (a_par_ok c4) ⟨Nat.le_trans g1 hfr, Nat.le_trans g2 hlo⟩, c5, hts _ (a_has_in c1)⟩ ⟨a_blind, fun U hU hW => ⟨by simp [a_cv], a_PB_at hE hP hD hS hU hW⟩⟩ rfl (by rw [List.length_map, List.length_reverse]; exact hna) hl.1 hstk hroom hd ⟨hbc, hbs⟩) hS kk
          · cases hs
        · cases hs
      · cases hs
    · cases hs
  · cases hs
end AMAIN
end
section
/-! the length of a String constant, a sign of it: the JDK's own methods over them -/
def y_pci : MethodName := ⟨"jdk/internal/util/Preconditions", "checkIndex", "(IILjava/util/function/BiFunction;)I"⟩
abbrev b_pci : ByteArray := prog_18_method_11_code
abbrev w_pci : List Cond := .code y_pci b_pci 3 (some .int) :: a_LT
theorem wc_pci : Cond.code y_pci b_pci 3 (some .int) ∈ a_LT := a_has_in (p := (2, 238)) (by decide +kernel)
theorem wg_pci : ∀ w ∈ w_pci, w ∈ a_LT := fun w hw => (List.mem_cons.mp hw).elim (fun q => q ▸ wc_pci) (fun q => q)
theorem d_pci_0 : decode b_pci 0 = .ok (.iload_n 0, 1) := by decide +kernel
theorem d_pci_1 : decode b_pci 1 = .ok (.ifCond .lt 8, 3) := by decide +kernel
theorem d_pci_4 : decode b_pci 4 = .ok (.iload_n 0, 1) := by decide +kernel
theorem d_pci_5 : decode b_pci 5 = .ok (.iload_n 1, 1) := by decide +kernel
theorem d_pci_6 : decode b_pci 6 = .ok (.if_icmp .lt 10, 3) := by decide +kernel
theorem d_pci_16 : decode b_pci 16 = .ok (.iload_n 0, 1) := by decide +kernel
theorem d_pci_17 : decode b_pci 17 = .ok (.ireturn, 1) := by decide +kernel
def y_sci : MethodName := ⟨"java/lang/String", "checkIndex", "(II)V"⟩
abbrev b_sci : ByteArray := prog_13_method_155_code
abbrev w_sci : List Cond := .code y_sci b_sci 2 none :: a_LT
theorem wc_sci : Cond.code y_sci b_sci 2 none ∈ a_LT := a_has_in (p := (2, 233)) (by decide +kernel)
theorem wg_sci : ∀ w ∈ w_sci, w ∈ a_LT := fun w hw => (List.mem_cons.mp hw).elim (fun q => q ▸ wc_sci) (fun q => q)
theorem d_sci_0 : decode b_sci 0 = .ok (.iload_n 0, 1) := by decide +kernel
theorem d_sci_1 : decode b_sci 1 = .ok (.iload_n 1, 1) := by decide +kernel
theorem d_sci_2 : decode b_sci 2 = .ok (.getstatic 1053, 3) := by decide +kernel
theorem d_sci_5 : decode b_sci 5 = .ok (.invokestatic 1059, 3) := by decide +kernel
theorem d_sci_8 : decode b_sci 8 = .ok (.pop, 1) := by decide +kernel
theorem d_sci_9 : decode b_sci 9 = .ok (.return_, 1) := by decide +kernel
def y_lca : MethodName := ⟨"java/lang/StringLatin1", "charAt", "([BI)C"⟩
abbrev b_lca : ByteArray := prog_14_method_2_code
abbrev w_lca : List Cond := .code y_lca b_lca 2 (some .char) :: a_LT
theorem wc_lca : Cond.code y_lca b_lca 2 (some .char) ∈ a_LT := a_has_in (p := (2, 230)) (by decide +kernel)
theorem wg_lca : ∀ w ∈ w_lca, w ∈ a_LT := fun w hw => (List.mem_cons.mp hw).elim (fun q => q ▸ wc_lca) (fun q => q)
theorem d_lca_0 : decode b_lca 0 = .ok (.iload_n 1, 1) := by decide +kernel
theorem d_lca_1 : decode b_lca 1 = .ok (.aload_n 0, 1) := by decide +kernel
theorem d_lca_2 : decode b_lca 2 = .ok (.arraylength, 1) := by decide +kernel
theorem d_lca_3 : decode b_lca 3 = .ok (.invokestatic 9, 3) := by decide +kernel
theorem d_lca_6 : decode b_lca 6 = .ok (.aload_n 0, 1) := by decide +kernel
theorem d_lca_7 : decode b_lca 7 = .ok (.iload_n 1, 1) := by decide +kernel
theorem d_lca_8 : decode b_lca 8 = .ok (.baload, 1) := by decide +kernel
theorem d_lca_9 : decode b_lca 9 = .ok (.sipush 255, 3) := by decide +kernel
theorem d_lca_12 : decode b_lca 12 = .ok (.iand, 1) := by decide +kernel
theorem d_lca_13 : decode b_lca 13 = .ok (.i2c, 1) := by decide +kernel
theorem d_lca_14 : decode b_lca 14 = .ok (.ireturn, 1) := by decide +kernel
def y_isl : MethodName := ⟨"java/lang/String", "isLatin1", "()Z"⟩
abbrev b_isl : ByteArray := prog_13_method_154_code
abbrev w_isl : List Cond := .code y_isl b_isl 1 (some .boolean) :: a_LT
theorem wc_isl : Cond.code y_isl b_isl 1 (some .boolean) ∈ a_LT := a_has_in (p := (2, 227)) (by decide +kernel)
theorem wg_isl : ∀ w ∈ w_isl, w ∈ a_LT := fun w hw => (List.mem_cons.mp hw).elim (fun q => q ▸ wc_isl) (fun q => q)
theorem d_isl_0 : decode b_isl 0 = .ok (.getstatic 38, 3) := by decide +kernel
theorem d_isl_3 : decode b_isl 3 = .ok (.ifCond .eq 14, 3) := by decide +kernel
theorem d_isl_6 : decode b_isl 6 = .ok (.aload_n 0, 1) := by decide +kernel
theorem d_isl_7 : decode b_isl 7 = .ok (.getfield 15, 3) := by decide +kernel
theorem d_isl_10 : decode b_isl 10 = .ok (.ifCond .ne 7, 3) := by decide +kernel
theorem d_isl_13 : decode b_isl 13 = .ok (.iconst 1, 1) := by decide +kernel
theorem d_isl_14 : decode b_isl 14 = .ok (.goto 4, 3) := by decide +kernel
theorem d_isl_18 : decode b_isl 18 = .ok (.ireturn, 1) := by decide +kernel
def y_cha : MethodName := ⟨"java/lang/String", "charAt", "(I)C"⟩
abbrev b_cha : ByteArray := prog_13_method_56_code
abbrev w_cha : List Cond := .code y_cha b_cha 2 (some .char) :: a_LT
theorem wc_cha : Cond.code y_cha b_cha 2 (some .char) ∈ a_LT := a_has_in (p := (2, 223)) (by decide +kernel)
theorem wg_cha : ∀ w ∈ w_cha, w ∈ a_LT := fun w hw => (List.mem_cons.mp hw).elim (fun q => q ▸ wc_cha) (fun q => q)
theorem d_cha_0 : decode b_cha 0 = .ok (.aload_n 0, 1) := by decide +kernel
theorem d_cha_1 : decode b_cha 1 = .ok (.invokevirtual 492, 3) := by decide +kernel
theorem d_cha_4 : decode b_cha 4 = .ok (.ifCond .eq 12, 3) := by decide +kernel
theorem d_cha_7 : decode b_cha 7 = .ok (.aload_n 0, 1) := by decide +kernel
theorem d_cha_8 : decode b_cha 8 = .ok (.getfield 9, 3) := by decide +kernel
theorem d_cha_11 : decode b_cha 11 = .ok (.iload_n 1, 1) := by decide +kernel
theorem d_cha_12 : decode b_cha 12 = .ok (.invokestatic 495, 3) := by decide +kernel
theorem d_cha_15 : decode b_cha 15 = .ok (.ireturn, 1) := by decide +kernel
def y_cod : MethodName := ⟨"java/lang/String", "coder", "()B"⟩
abbrev b_cod : ByteArray := prog_13_method_152_code
abbrev w_cod : List Cond := .code y_cod b_cod 1 (some .byte) :: a_LT
theorem wc_cod : Cond.code y_cod b_cod 1 (some .byte) ∈ a_LT := a_has_in (p := (2, 217)) (by decide +kernel)
theorem wg_cod : ∀ w ∈ w_cod, w ∈ a_LT := fun w hw => (List.mem_cons.mp hw).elim (fun q => q ▸ wc_cod) (fun q => q)
theorem d_cod_0 : decode b_cod 0 = .ok (.getstatic 38, 3) := by decide +kernel
theorem d_cod_3 : decode b_cod 3 = .ok (.ifCond .eq 10, 3) := by decide +kernel
theorem d_cod_6 : decode b_cod 6 = .ok (.aload_n 0, 1) := by decide +kernel
theorem d_cod_7 : decode b_cod 7 = .ok (.getfield 15, 3) := by decide +kernel
theorem d_cod_10 : decode b_cod 10 = .ok (.goto 4, 3) := by decide +kernel
theorem d_cod_14 : decode b_cod 14 = .ok (.ireturn, 1) := by decide +kernel
def y_len : MethodName := ⟨"java/lang/String", "length", "()I"⟩
abbrev b_len : ByteArray := prog_13_method_54_code
abbrev w_len : List Cond := .code y_len b_len 1 (some .int) :: a_LT
theorem wc_len : Cond.code y_len b_len 1 (some .int) ∈ a_LT := a_has_in (p := (2, 213)) (by decide +kernel)
theorem wg_len : ∀ w ∈ w_len, w ∈ a_LT := fun w hw => (List.mem_cons.mp hw).elim (fun q => q ▸ wc_len) (fun q => q)
theorem d_len_0 : decode b_len 0 = .ok (.aload_n 0, 1) := by decide +kernel
theorem d_len_1 : decode b_len 1 = .ok (.getfield 9, 3) := by decide +kernel
theorem d_len_4 : decode b_len 4 = .ok (.arraylength, 1) := by decide +kernel
theorem d_len_5 : decode b_len 5 = .ok (.aload_n 0, 1) := by decide +kernel
theorem d_len_6 : decode b_len 6 = .ok (.invokevirtual 335, 3) := by decide +kernel
theorem d_len_9 : decode b_len 9 = .ok (.ishr, 1) := by decide +kernel
theorem d_len_10 : decode b_len 10 = .ok (.ireturn, 1) := by decide +kernel
theorem wl_335 : Cond.methodLink "java/lang/String" 335 y_cod ∈ a_LT := a_has_in (p := (2, 214)) (by decide +kernel)
theorem wi_cod : Cond.instanceMethod y_cod ∈ a_LT := a_has_in (p := (2, 215)) (by decide +kernel)
theorem ws_cod : Cond.selects "java/lang/String" y_cod y_cod ∈ a_LT := a_has_in (p := (2, 216)) (by decide +kernel)
theorem wn_S : Cond.initialized "java/lang/String" ∈ a_LT := a_has_in (p := (1, 12)) (by decide +kernel)
theorem wn_L : Cond.initialized "java/lang/StringLatin1" ∈ a_LT := a_has_in (p := (1, 13)) (by decide +kernel)
theorem wn_P : Cond.initialized "jdk/internal/util/Preconditions" ∈ a_LT := a_has_in (p := (1, 14)) (by decide +kernel)
theorem wf_38 : Cond.fieldLink "java/lang/String" 38 "java/lang/String" "COMPACT_STRINGS" "Z" ∈ a_LT := a_has_in (p := (2, 218)) (by decide +kernel)
theorem wl_492 : Cond.methodLink "java/lang/String" 492 y_isl ∈ a_LT := a_has_in (p := (2, 224)) (by decide +kernel)
theorem wi_isl : Cond.instanceMethod y_isl ∈ a_LT := a_has_in (p := (2, 225)) (by decide +kernel)
theorem ws_isl : Cond.selects "java/lang/String" y_isl y_isl ∈ a_LT := a_has_in (p := (2, 226)) (by decide +kernel)
theorem wl_495 : Cond.methodLink "java/lang/String" 495 y_lca ∈ a_LT := a_has_in (p := (2, 228)) (by decide +kernel)
theorem wt_lca : Cond.static y_lca ∈ a_LT := a_has_in (p := (2, 229)) (by decide +kernel)
theorem wl_9 : Cond.methodLink "java/lang/StringLatin1" 9 y_sci ∈ a_LT := a_has_in (p := (2, 231)) (by decide +kernel)
theorem wt_sci : Cond.static y_sci ∈ a_LT := a_has_in (p := (2, 232)) (by decide +kernel)
theorem wf_1053 : Cond.fieldLink "java/lang/String" 1053 "jdk/internal/util/Preconditions" "SIOOBE_FORMATTER" "Ljava/util/function/BiFunction;" ∈ a_LT := a_has_in (p := (2, 234)) (by decide +kernel)
theorem wl_1059 : Cond.methodLink "java/lang/String" 1059 y_pci ∈ a_LT := a_has_in (p := (2, 236)) (by decide +kernel)
theorem wt_pci : Cond.static y_pci ∈ a_LT := a_has_in (p := (2, 237)) (by decide +kernel)
theorem wf_9 : Cond.fieldLink "java/lang/String" 9 "java/lang/String" "value" "[B" ∈ a_LT := a_has_in (p := (6, 181)) (by decide +kernel)
theorem wf_15 : Cond.fieldLink "java/lang/String" 15 "java/lang/String" "coder" "B" ∈ a_LT := a_has_in (p := (6, 182)) (by decide +kernel)
theorem wi_len : Cond.instanceMethod y_len ∈ a_LT := a_has_in (p := (2, 211)) (by decide +kernel)
theorem ws_len : Cond.selects "java/lang/String" y_len y_len ∈ a_LT := a_has_in (p := (2, 212)) (by decide +kernel)
theorem wi_cha : Cond.instanceMethod y_cha ∈ a_LT := a_has_in (p := (2, 221)) (by decide +kernel)
theorem ws_cha : Cond.selects "java/lang/String" y_cha y_cha ∈ a_LT := a_has_in (p := (2, 222)) (by decide +kernel)
theorem a_StrE.to {ad : Nat → Nat} {a0 : Nat} {s U : State} {locs : List Loc} (h : a_StrE ad a0 s) (hW : s.WarmedH U.vm) (hS : va_S (a_A a0) s.heap U.heap locs) : a_StrE ad a0 U := by
  have ha : s.vm.Alike U.vm := hW.alike
  obtain ⟨⟨adV, h5⟩, h6, h7, h8⟩ := h
  refine ⟨⟨adV, ?_⟩, fun idx k tx p q => ?_, ?_, ?_⟩
  · exact vk_S.moved ha (h5.kept hS.2.1)
  · exact vk_R.warm hW (h6 idx k tx p q)
  · exact va_Z.moved ha (h7.kept hS.2.1)
  · exact va_Zq.moved ha (h8.kept hS.2.1)
theorem a_StrE.same {ad : Nat → Nat} {a0 : Nat} {s U : State} (h : a_StrE ad a0 s) (hv : U.vm = s.vm) (hh : U.heap = s.heap) : a_StrE ad a0 U := by
  have ha : s.vm.Alike U.vm := by rw [hv]; exact Vm.Alike.refl _
  obtain ⟨⟨adV, h5⟩, h6, h7, h8⟩ := h
  refine ⟨⟨adV, ?_⟩, fun idx k tx p q => ?_, ?_, ?_⟩
  · rw [hh]; exact vk_S.moved ha h5
  · exact vk_R.same hv (h6 idx k tx p q)
  · rw [hh]; exact va_Z.moved ha h7
  · rw [hh]; exact va_Zq.moved ha h8
theorem a_S0 {a0 : Nat} {H0 H : Heap} {locs : List Loc} (h : va_S (fun _ => False) H0 H locs) : va_S (a_A a0) H0 H locs := ⟨h.1, fun q h1 _ => h.2.1 q h1 (fun z => z), fun l hl => (h.2.2 l hl).elim⟩
theorem a_blS {av : List Value} {ad : Nat → Nat} {a0 : Nat} : FrameBlind (va_Pc av (a_StrE ad a0)) := fun _ _ _ _ q => ⟨q.1, q.2.same rfl rfl⟩
theorem a_blT {av : List Value} : FrameBlind (va_Pc av (fun _ => True)) := fun _ _ _ _ q => ⟨q.1, trivial⟩
theorem a_0 : (0 : Nat) ≤ 0 := Nat.le_refl 0
set_option maxHeartbeats 4000000 in
theorem c_pci (l : Launch) (i n : Int32) (v : Value) (hv2 : v.category = 1) (h0 : ¬ i < 0) (h1 : i < n) : Met l y_pci w_pci ({ frames := 0, cells := 0, slots := 0, locals := 0 }) (va_Pc [.int i, .int n, v] (fun _ => True)) (va_Qi (fun (r : Int32) (_ : Unit) => r = i) (fun _ _ => True) (fun _ => False)) 0 0 (fun _ => False) := by
  refine Met.ofW (cc := b_pci) (maxL := 3) (ret := (some .int)) (by decide +kernel) rfl ?_
  intro p e s m args below meth c s₁ B hml hv
  obtain ⟨rfl, hE⟩ := hv
  have hx := B.exec
  have hb := B.bytes
  have hr := B.returns
  have hts0 := atoms_spec (ws := w_pci) B.pre
  have hts : ∀ w ∈ a_LT, w.before [.int i, .int n, v].toArray s = true := fun w hw => hts0 w (List.mem_cons_of_mem _ hw)
  have hown : s.vm.findClass "jdk/internal/util/Preconditions" = some m.cls := findClass_of_methodNamed B.named
  have hlocks := B.notSynchronized
  have hS : va_S (fun _ => False) s.heap s.heap [] := va_S.rf
  have hl := lv_entry ([.int i, .int n, v]) (n := 3) (by cases v <;> first | (simp [lg_sl, Value.category]; done) | (simp [Value.category] at hv2))
  rw [lg_entry_eq]
  generalize (lg_sl ([.int i, .int n, v]) ++ List.replicate (3 - (lg_sl ([.int i, .int n, v])).length) Slot.unset).toArray = ls at hl ⊢
  have hl : lv_has ls 3 [(0, .int i), (1, .int n)] := lv_sub hl [0, 1] rfl
  refine lv_iload_n hx hb d_pci_0 rfl (lv_at hl 0 rfl) ?_
  refine lv_if_lt (tgt := 9) hx hb d_pci_1 (by decide) (fun q => absurd q h0) (fun _ => ?_)
  refine lv_iload_n hx hb d_pci_4 rfl (lv_at hl 0 rfl) ?_
  refine lv_iload_n hx hb d_pci_5 rfl (lv_at hl 1 rfl) ?_
  refine lv_icmp_lt (tgt := 16) hx hb d_pci_6 (by decide) (fun _ => ?_) (fun q => absurd h1 q)
  refine lv_iload_n hx hb d_pci_16 rfl (lv_at hl 0 rfl) ?_
  exact W.zret (v := i) (ty := .int) hx hb hr rfl (fun t ht hW => ⟨⟨i, (), rfl, rfl, trivial⟩, hS.F ht⟩) hS.2.2 d_pci_17 hlocks
set_option maxHeartbeats 4000000 in
theorem c_sci (l : Launch) (ad : Nat → Nat) (a0 : Nat) (i n : Int32) (h0 : ¬ i < 0) (h1 : i < n) : Met l y_sci w_sci ({ frames := 1, cells := 0, slots := 0, locals := 22 }) (va_Pc [.int i, .int n] (a_StrE ad a0)) (va_Qv (fun (_ : Unit) => True) (fun _ _ => True) (fun _ => False)) 0 0 (fun _ => False) := by
  refine Met.ofW (cc := b_sci) (maxL := 2) (ret := none) (by decide +kernel) rfl ?_
  intro p e s m args below meth c s₁ B hml hv
  obtain ⟨rfl, hE⟩ := hv
  have hx := B.exec
  have hb := B.bytes
  have hr := B.returns
  have hts0 := atoms_spec (ws := w_sci) B.pre
  have hts : ∀ w ∈ a_LT, w.before [.int i, .int n].toArray s = true := fun w hw => hts0 w (List.mem_cons_of_mem _ hw)
  have hown : s.vm.findClass "java/lang/String" = some m.cls := findClass_of_methodNamed B.named
  have hlocks := B.notSynchronized
  have hS : va_S (fun _ => False) s.heap s.heap [] := va_S.rf
  have hl := lv_entry ([.int i, .int n]) (n := 2) (by simp [lg_sl, Value.category])
  rw [lg_entry_eq]
  generalize (lg_sl ([.int i, .int n]) ++ List.replicate (2 - (lg_sl ([.int i, .int n])).length) Slot.unset).toArray = ls at hl ⊢
  have hl : lv_has ls 2 [(0, .int i), (1, .int n)] := by simpa [lv_args, Value.category] using hl
  have go : ∀ v : Value, v.category = 1 → va_Z "jdk/internal/util/Preconditions" "SIOOBE_FORMATTER" "Ljava/util/function/BiFunction;" v (a_A a0) s s.heap → W p l e (headSpec w_sci ({ frames := 1, cells := 0, slots := 0, locals := 22 })).room s m [Value.int i, Value.int n].toArray below meth c s.heap [] 0 0 (MQ below (va_Qv (fun (_ : Unit) => True) (fun _ _ => True) (fun _ => False)) [Value.int i, Value.int n].toArray s 0 0 (fun _ => False)) (F0 m 0 ls []) := by
    intro v hv2 hZ
    refine lv_iload_n hx hb d_sci_0 rfl (lv_at hl 0 rfl) ?_
    refine lv_iload_n hx hb d_sci_1 rfl (lv_at hl 1 rfl) ?_
    refine va_gets hx hb hZ (a_S0 hS) hown (hts _ wf_1053) (fun _ h => h) d_sci_2 ?_
    refine va_calli (va_runS (As := [.int i, .int n, v]) (rest := []) ⟨hx, hb, hml, hown, hts⟩ (c_pci l i n v hv2 h0 h1) (va_cwS 3 hts (a_good (a_app_good (fun w hw => ?_) wg_pci)) rfl rfl rfl ⟨by decide, by decide, by decide +kernel⟩ ⟨Nat.le_of_ble_eq_true rfl, Nat.le_of_ble_eq_true rfl⟩) ⟨a_blT, fun U hU hW => ⟨rfl, trivial⟩⟩ rfl rfl hl.1 rfl (lv_room (Nat.le_of_ble_eq_true rfl)) d_sci_5 ⟨Nat.zero_le _, Nat.zero_le _⟩) hS (fun q _ z => z) (fun q z => z) (fun r u t H1 locs1 ht hvm hw hB hz hk hS => ?_)
    · simp only [List.mem_cons, List.not_mem_nil, or_false] at hw
      rcases hw with rfl | rfl | rfl
      · exact wl_1059
      · exact wt_pci
      · exact wn_P
    · refine lv_pop hx hb d_sci_8 rfl ?_
      exact W.vret hx hb hr (fun t ht hW => ⟨⟨(), rfl, trivial, trivial⟩, hS.F ht⟩) hS.2.2 d_sci_9 hlocks
  rcases hE.2.2.2 with h | ⟨t, h⟩
  · exact go .null rfl h
  · exact go (.ref t) rfl h
set_option maxHeartbeats 4000000 in
theorem c_lca (l : Launch) (ad adV : Nat → Nat) (a0 k j : Nat) (hk : k < 7) (hj : j < a_sl.getD k 0) : Met l y_lca w_lca ({ frames := 2, cells := 0, slots := 0, locals := 43 }) (va_Pc [.ref (adV k), .int (nI j)] (fun U => a_StrE ad a0 U ∧ vk_S 7 a_sl a_sc (fun k => ad (1000 + k)) adV (a_A a0) U U.heap)) (va_Qi (fun (r : Int32) (_ : Unit) => r = ((a_sc.getD k []).getD j 0)) (fun _ _ => True) (fun _ => False)) 0 0 (fun _ => False) := by
  refine Met.ofW (cc := b_lca) (maxL := 2) (ret := (some .char)) (by decide +kernel) rfl ?_
  intro p e s m args below meth c s₁ B hml hv
  obtain ⟨rfl, hE⟩ := hv
  have hx := B.exec
  have hb := B.bytes
  have hr := B.returns
  have hts0 := atoms_spec (ws := w_lca) B.pre
  have hts : ∀ w ∈ a_LT, w.before [.ref (adV k), .int (nI j)].toArray s = true := fun w hw => hts0 w (List.mem_cons_of_mem _ hw)
  have hown : s.vm.findClass "java/lang/StringLatin1" = some m.cls := findClass_of_methodNamed B.named
  have hlocks := B.notSynchronized
  have hS : va_S (fun _ => False) s.heap s.heap [] := va_S.rf
  have hl := lv_entry ([.ref (adV k), .int (nI j)]) (n := 2) (by simp [lg_sl, Value.category])
  rw [lg_entry_eq]
  generalize (lg_sl ([.ref (adV k), .int (nI j)]) ++ List.replicate (2 - (lg_sl ([.ref (adV k), .int (nI j)])).length) Slot.unset).toArray = ls at hl ⊢
  have hl : lv_has ls 2 [(0, .ref (adV k)), (1, .int (nI j))] := by simpa [lv_args, Value.category] using hl
  have hT := (hE.2.1 k hk).2.2.2
  have hn : a_sl.getD k 0 < 2 ^ 31 ∧ ∀ j, j < a_sl.getD k 0 → narrow .char (.int ((a_sc.getD k []).getD j 0)) = .int ((a_sc.getD k []).getD j 0) ∧ (((a_sc.getD k []).getD j 0 &&& (Int16.ofInt 255).toInt32).toUInt32 % 65536).toInt32 = (a_sc.getD k []).getD j 0 := by
    have : ∀ k, k < 7 → a_sl.getD k 0 < 2 ^ 31 ∧ ∀ j, j < a_sl.getD k 0 → narrow .char (.int ((a_sc.getD k []).getD j 0)) = .int ((a_sc.getD k []).getD j 0) ∧ (((a_sc.getD k []).getD j 0 &&& (Int16.ofInt 255).toInt32).toUInt32 % 65536).toInt32 = (a_sc.getD k []).getD j 0 := by decide +kernel
    exact this k hk
  have hn1 := hn.1
  have hc : ∀ q, q < s.heap.size → True := fun _ _ => trivial
  refine lv_iload_n hx hb d_lca_0 rfl (lv_at hl 1 rfl) ?_
  refine lv_aload_n hx hb d_lca_1 rfl (lv_at hl 0 rfl) ?_
  refine va_tlen hx hb hT (a_S0 hS) (v := nI (a_sl.getD k 0)) rfl d_lca_2 ?_
  refine va_callv (va_runS (As := [.int (nI j), .int (nI (a_sl.getD k 0))]) (rest := []) ⟨hx, hb, hml, hown, hts⟩ (c_sci l ad a0 (nI j) (nI (a_sl.getD k 0)) (nI_pos (by omega)) (nI_lt hj (by omega))) (va_cwS 2 hts (a_good (a_app_good (fun w hw => ?_) wg_sci)) rfl rfl rfl ⟨by decide, by decide, by decide +kernel⟩ ⟨Nat.le_of_ble_eq_true rfl, Nat.le_of_ble_eq_true rfl⟩) ⟨a_blS, fun U hU hW => ⟨rfl, hE.1.to hW (by rw [hU]; exact a_S0 hS)⟩⟩ rfl rfl hl.1 rfl (lv_room (Nat.le_of_ble_eq_true rfl)) d_lca_3 ⟨Nat.zero_le _, Nat.zero_le _⟩) hS (fun q _ z => z) (fun q z => z) (fun u t H1 locs1 ht hvm hw hB hz hk2 hS => ?_)
  · simp only [List.mem_cons, List.not_mem_nil, or_false] at hw
    rcases hw with rfl | rfl | rfl
    · exact wl_9
    · exact wt_sci
    · exact wn_S
  · refine lv_aload_n hx hb d_lca_6 rfl (lv_at hl 0 rfl) ?_
    refine lv_iload_n hx hb d_lca_7 rfl (lv_at hl 1 rfl) ?_
    refine va_tb hx hb hT (a_S0 hS) (vp_in_nI hj (by omega)) (v := .int ((a_sc.getD k []).getD j 0)) (by rw [nI_clamp (by omega)]) d_lca_8 ?_
    refine lv_sipush hx hb d_lca_9 rfl ?_
    refine lv_iand hx hb d_lca_12 ?_
    refine lv_i2c hx hb d_lca_13 ((hn.2 j hj).2) ?_
    exact W.zret (v := (a_sc.getD k []).getD j 0) (ty := .char) hx hb hr (hn.2 j hj).1 (fun t ht hW => ⟨⟨_, (), rfl, rfl, trivial⟩, hS.F ht⟩) hS.2.2 d_lca_14 hlocks
set_option maxHeartbeats 4000000 in
theorem c_isl (l : Launch) (ad : Nat → Nat) (a0 k : Nat) (hk : k < 7) : Met l y_isl w_isl ({ frames := 0, cells := 0, slots := 0, locals := 0 }) (va_Pc [.ref (ad (1000 + k))] (a_StrE ad a0)) (va_Qi (fun (r : Int32) (_ : Unit) => r = 1) (fun _ _ => True) (fun _ => False)) 0 0 (fun _ => False) := by
  refine Met.ofW (cc := b_isl) (maxL := 1) (ret := (some .boolean)) (by decide +kernel) rfl ?_
  intro p e s m args below meth c s₁ B hml hv
  obtain ⟨rfl, hE⟩ := hv
  have hx := B.exec
  have hb := B.bytes
  have hr := B.returns
  have hts0 := atoms_spec (ws := w_isl) B.pre
  have hts : ∀ w ∈ a_LT, w.before [.ref (ad (1000 + k))].toArray s = true := fun w hw => hts0 w (List.mem_cons_of_mem _ hw)
  have hown : s.vm.findClass "java/lang/String" = some m.cls := findClass_of_methodNamed B.named
  have hlocks := B.notSynchronized
  have hS : va_S (fun _ => False) s.heap s.heap [] := va_S.rf
  have hl := lv_entry ([.ref (ad (1000 + k))]) (n := 1) (by simp [lg_sl, Value.category])
  rw [lg_entry_eq]
  generalize (lg_sl ([.ref (ad (1000 + k))]) ++ List.replicate (1 - (lg_sl ([.ref (ad (1000 + k))])).length) Slot.unset).toArray = ls at hl ⊢
  have hl : lv_has ls 1 [(0, .ref (ad (1000 + k)))] := by simpa [lv_args, Value.category] using hl
  obtain ⟨⟨adV, h5⟩, h6, h7, h8⟩ := hE
  refine va_gets hx hb h7 (a_S0 hS) hown (hts _ wf_38) (fun _ h => h) d_isl_0 ?_
  refine lv_if_eq (tgt := 17) hx hb d_isl_3 (by decide) (fun q => absurd q (by decide)) (fun _ => ?_)
  refine lv_aload_n hx hb d_isl_6 rfl (lv_at hl 0 rfl) ?_
  refine vk_getf hx hb (h5.1 k hk).2.1 (a_S0 hS) hown (hts _ wf_15) (fun _ h => h) d_isl_7 ?_
  refine lv_if_ne (tgt := 17) hx hb d_isl_10 (by decide) (fun q => absurd rfl q) (fun _ => ?_)
  refine lv_iconst (v := 1) hx hb d_isl_13 (by decide) ?_
  refine lv_goto (tgt := 18) hx hb d_isl_14 (by decide) ?_
  exact W.zret (v := 1) (ty := .boolean) hx hb hr rfl (fun t ht hW => ⟨⟨1, (), rfl, rfl, trivial⟩, hS.F ht⟩) hS.2.2 d_isl_18 hlocks
set_option maxHeartbeats 4000000 in
theorem c_cod (l : Launch) (ad : Nat → Nat) (a0 k : Nat) (hk : k < 7) : Met l y_cod w_cod ({ frames := 0, cells := 0, slots := 0, locals := 0 }) (va_Pc [.ref (ad (1000 + k))] (a_StrE ad a0)) (va_Qi (fun (r : Int32) (_ : Unit) => r = 0) (fun _ _ => True) (fun _ => False)) 0 0 (fun _ => False) := by
  refine Met.ofW (cc := b_cod) (maxL := 1) (ret := (some .byte)) (by decide +kernel) rfl ?_
  intro p e s m args below meth c s₁ B hml hv
  obtain ⟨rfl, hE⟩ := hv
  have hx := B.exec
  have hb := B.bytes
  have hr := B.returns
  have hts0 := atoms_spec (ws := w_cod) B.pre
  have hts : ∀ w ∈ a_LT, w.before [.ref (ad (1000 + k))].toArray s = true := fun w hw => hts0 w (List.mem_cons_of_mem _ hw)
  have hown : s.vm.findClass "java/lang/String" = some m.cls := findClass_of_methodNamed B.named
  have hlocks := B.notSynchronized
  have hS : va_S (fun _ => False) s.heap s.heap [] := va_S.rf
  have hl := lv_entry ([.ref (ad (1000 + k))]) (n := 1) (by simp [lg_sl, Value.category])
  rw [lg_entry_eq]
  generalize (lg_sl ([.ref (ad (1000 + k))]) ++ List.replicate (1 - (lg_sl ([.ref (ad (1000 + k))])).length) Slot.unset).toArray = ls at hl ⊢
  have hl : lv_has ls 1 [(0, .ref (ad (1000 + k)))] := by simpa [lv_args, Value.category] using hl
  obtain ⟨⟨adV, h5⟩, h6, h7, h8⟩ := hE
  refine va_gets hx hb h7 (a_S0 hS) hown (hts _ wf_38) (fun _ h => h) d_cod_0 ?_
  refine lv_if_eq (tgt := 13) hx hb d_cod_3 (by decide) (fun q => absurd q (by decide)) (fun _ => ?_)
  refine lv_aload_n hx hb d_cod_6 rfl (lv_at hl 0 rfl) ?_
  refine vk_getf hx hb (h5.1 k hk).2.1 (a_S0 hS) hown (hts _ wf_15) (fun _ h => h) d_cod_7 ?_
  refine lv_goto (tgt := 14) hx hb d_cod_10 (by decide) ?_
  exact W.zret (v := 0) (ty := .byte) hx hb hr rfl (fun t ht hW => ⟨⟨0, (), rfl, rfl, trivial⟩, hS.F ht⟩) hS.2.2 d_cod_14 hlocks
set_option maxHeartbeats 4000000 in
theorem c_len (l : Launch) (ad : Nat → Nat) (a0 k : Nat) (hk : k < 7) : Met l y_len w_len ({ frames := 1, cells := 0, slots := 0, locals := 20 }) (va_Pc [.ref (ad (1000 + k))] (a_StrE ad a0)) (va_Qi (fun (r : Int32) (_ : Unit) => r = nI (a_sl.getD k 0)) (fun _ _ => True) (fun _ => False)) 0 0 (fun _ => False) := by
  refine Met.ofW (cc := b_len) (maxL := 1) (ret := (some .int)) (by decide +kernel) rfl ?_
  intro p e s m args below meth c s₁ B hml hv
  obtain ⟨rfl, hE⟩ := hv
  have hx := B.exec
  have hb := B.bytes
  have hr := B.returns
  have hts0 := atoms_spec (ws := w_len) B.pre
  have hts : ∀ w ∈ a_LT, w.before [.ref (ad (1000 + k))].toArray s = true := fun w hw => hts0 w (List.mem_cons_of_mem _ hw)
  have hown : s.vm.findClass "java/lang/String" = some m.cls := findClass_of_methodNamed B.named
  have hlocks := B.notSynchronized
  have hS : va_S (fun _ => False) s.heap s.heap [] := va_S.rf
  have hl := lv_entry ([.ref (ad (1000 + k))]) (n := 1) (by simp [lg_sl, Value.category])
  rw [lg_entry_eq]
  generalize (lg_sl ([.ref (ad (1000 + k))]) ++ List.replicate (1 - (lg_sl ([.ref (ad (1000 + k))])).length) Slot.unset).toArray = ls at hl ⊢
  have hl : lv_has ls 1 [(0, .ref (ad (1000 + k)))] := by simpa [lv_args, Value.category] using hl
  obtain ⟨⟨adV, h5⟩, h6, h7, h8⟩ := id hE
  have hsh : nI (a_sl.getD k 0) >>> ((0 : Int32) &&& 31) = nI (a_sl.getD k 0) := by
    have : ∀ k, k < 7 → nI (a_sl.getD k 0) >>> ((0 : Int32) &&& 31) = nI (a_sl.getD k 0) := by decide +kernel
    exact this k hk
  refine lv_aload_n hx hb d_len_0 rfl (lv_at hl 0 rfl) ?_
  refine vk_getf hx hb (h5.1 k hk).2.2.1 (a_S0 hS) hown (hts _ wf_9) (fun _ h => h) d_len_1 ?_
  refine va_tlen hx hb (h5.1 k hk).2.2.2 (a_S0 hS) (v := nI (a_sl.getD k 0)) rfl d_len_4 ?_
  refine lv_aload_n hx hb d_len_5 rfl (lv_at hl 0 rfl) ?_
  refine va_calli (va_runV (As := []) (rest := [.int (nI (a_sl.getD k 0))]) ⟨hx, hb, hml, hown, hts⟩ (c_cod l ad a0 k hk) (cwV 0 hts (a_good (a_app_good (fun w hw => ?_) wg_cod)) rfl rfl rfl ⟨rfl, by decide, by decide, by decide +kernel⟩ ⟨Nat.le_of_ble_eq_true rfl, Nat.le_of_ble_eq_true rfl⟩) ⟨a_blS, vk_recv h5 hk (a_S0 hS), fun U hU hW => ⟨rfl, hE.to hW (by rw [hU]; exact a_S0 hS)⟩⟩ rfl rfl hl.1 rfl (lv_room (Nat.le_of_ble_eq_true rfl)) d_len_6 ⟨Nat.zero_le _, Nat.zero_le _⟩) hS (fun q _ z => z) (fun q z => z) (fun r u t H1 locs1 ht hvm hw hB hz hk2 hS => ?_)
  · simp only [List.mem_cons, List.not_mem_nil, or_false] at hw
    rcases hw with rfl | rfl | rfl | rfl
    · exact wl_335
    · exact wi_cod
    · exact ws_cod
    · exact wn_S
  · subst hw
    refine lv_ishr hx hb d_len_9 ?_
    rw [hsh]
    exact W.zret (v := nI (a_sl.getD k 0)) (ty := .int) hx hb hr rfl (fun t ht hW => ⟨⟨_, (), rfl, rfl, trivial⟩, hS.F ht⟩) hS.2.2 d_len_10 hlocks
set_option maxHeartbeats 4000000 in
theorem c_cha (l : Launch) (ad : Nat → Nat) (a0 k j : Nat) (hk : k < 7) (hj : j < a_sl.getD k 0) : Met l y_cha w_cha ({ frames := 3, cells := 0, slots := 0, locals := 64 }) (va_Pc [.ref (ad (1000 + k)), .int (nI j)] (a_StrE ad a0)) (va_Qi (fun (r : Int32) (_ : Unit) => r = ((a_sc.getD k []).getD j 0)) (fun _ _ => True) (fun _ => False)) 0 0 (fun _ => False) := by
  refine Met.ofW (cc := b_cha) (maxL := 2) (ret := (some .char)) (by decide +kernel) rfl ?_
  intro p e s m args below meth c s₁ B hml hv
  obtain ⟨rfl, hE⟩ := hv
  have hx := B.exec
  have hb := B.bytes
  have hr := B.returns
  have hts0 := atoms_spec (ws := w_cha) B.pre
  have hts : ∀ w ∈ a_LT, w.before [.ref (ad (1000 + k)), .int (nI j)].toArray s = true := fun w hw => hts0 w (List.mem_cons_of_mem _ hw)
  have hown : s.vm.findClass "java/lang/String" = some m.cls := findClass_of_methodNamed B.named
  have hlocks := B.notSynchronized
  have hS : va_S (fun _ => False) s.heap s.heap [] := va_S.rf
  have hl := lv_entry ([.ref (ad (1000 + k)), .int (nI j)]) (n := 2) (by simp [lg_sl, Value.category])
  rw [lg_entry_eq]
  generalize (lg_sl ([.ref (ad (1000 + k)), .int (nI j)]) ++ List.replicate (2 - (lg_sl ([.ref (ad (1000 + k)), .int (nI j)])).length) Slot.unset).toArray = ls at hl ⊢
  have hl : lv_has ls 2 [(0, .ref (ad (1000 + k))), (1, .int (nI j))] := by simpa [lv_args, Value.category] using hl
  obtain ⟨⟨adV, h5⟩, h6, h7, h8⟩ := id hE
  have hn : narrow .char (.int ((a_sc.getD k []).getD j 0)) = .int ((a_sc.getD k []).getD j 0) := by
    have : ∀ k, k < 7 → ∀ j, j < a_sl.getD k 0 → narrow .char (.int ((a_sc.getD k []).getD j 0)) = .int ((a_sc.getD k []).getD j 0) := by decide +kernel
    exact this k hk j hj
  refine lv_aload_n hx hb d_cha_0 rfl (lv_at hl 0 rfl) ?_
  refine va_calli (va_runV (As := []) (rest := []) ⟨hx, hb, hml, hown, hts⟩ (c_isl l ad a0 k hk) (cwV 0 hts (a_good (a_app_good (fun w hw => ?_) wg_isl)) rfl rfl rfl ⟨rfl, by decide, by decide, by decide +kernel⟩ ⟨Nat.le_of_ble_eq_true rfl, Nat.le_of_ble_eq_true rfl⟩) ⟨a_blS, vk_recv h5 hk (a_S0 hS), fun U hU hW => ⟨rfl, hE.to hW (by rw [hU]; exact a_S0 hS)⟩⟩ rfl rfl hl.1 rfl (lv_room (Nat.le_of_ble_eq_true rfl)) d_cha_1 ⟨Nat.zero_le _, Nat.zero_le _⟩) hS (fun q _ z => z) (fun q z => z) (fun r u t H1 locs1 ht hvm hw hB hz hk2 hS => ?_)
  · simp only [List.mem_cons, List.not_mem_nil, or_false] at hw
    rcases hw with rfl | rfl | rfl | rfl
    · exact wl_492
    · exact wi_isl
    · exact ws_isl
    · exact wn_S
  · subst hw
    refine lv_if_eq (tgt := 16) hx hb d_cha_4 (by decide) (fun q => absurd q (by decide)) (fun _ => ?_)
    refine lv_aload_n hx hb d_cha_7 rfl (lv_at hl 0 rfl) ?_
    refine vk_getf hx hb (h5.1 k hk).2.2.1 (a_S0 hS) hown (hts _ wf_9) (fun _ h => h) d_cha_8 ?_
    refine lv_iload_n hx hb d_cha_11 rfl (lv_at hl 1 rfl) ?_
    refine va_calli (va_runS (As := [.ref (adV k), .int (nI j)]) (rest := []) ⟨hx, hb, hml, hown, hts⟩ (c_lca l ad adV a0 k j hk hj) (va_cwS 2 hts (a_good (a_app_good (fun w hw => ?_) wg_lca)) rfl rfl rfl ⟨by decide, by decide, by decide +kernel⟩ ⟨Nat.le_of_ble_eq_true rfl, Nat.le_of_ble_eq_true rfl⟩) ⟨fun _ _ _ _ q => ⟨q.1, q.2.1.same rfl rfl, q.2.2⟩, fun U hU hW => ⟨rfl, hE.to hW (by rw [hU]; exact a_S0 hS), vk_S.moved hW.alike (by rw [hU]; exact h5.kept (a_S0 hS).2.1)⟩⟩ rfl rfl hl.1 rfl (lv_room (Nat.le_of_ble_eq_true rfl)) d_cha_12 ⟨Nat.zero_le _, Nat.zero_le _⟩) hS (fun q _ z => z) (fun q z => z) (fun r u t H1 locs1 ht hvm hw hB hz hk2 hS => ?_)
    · simp only [List.mem_cons, List.not_mem_nil, or_false] at hw
      rcases hw with rfl | rfl | rfl
      · exact wl_495
      · exact wt_lca
      · exact wn_L
    · subst hw
      exact W.zret (v := (a_sc.getD k []).getD j 0) (ty := .char) hx hb hr hn (fun t ht hW => ⟨⟨_, (), rfl, rfl, trivial⟩, hS.F ht⟩) hS.2.2 d_cha_15 hlocks
end
section
section ARUN
variable {X : a_X} {l : Launch}
theorem wl_142 : Cond.methodLink (a_Cn 6) 142 y_len ∈ a_LT := a_has_in (p := (2, 210)) (by decide +kernel)
theorem wl_146 : Cond.methodLink (a_Cn 6) 146 y_cha ∈ a_LT := a_has_in (p := (2, 220)) (by decide +kernel)
set_option maxHeartbeats 4000000 in
/-- a string's length, a sign of it -/
theorem a_sim_str {p : Program} {e : Env} {R : Room} {s : State} {m : MethodId} {args : Array Value} {below : List Frame} {meth : Method} {c : Code} {H : Heap} {locs : List Loc} {cells slots : Nat} {Q : State → Prop} {pc : Nat} {ls : Array Slot} {ad : Nat → Nat} {D : va_G} {cA : Nat → ClassId} {a0 : Nat} {M : a_Mth} {lv : a_LV} {st : List Value} {h : a_H} {x : Nat × a_LV × List Value × a_H} {idx kind : Nat} {z : Nat × Nat × List (Nat × Nat) × String} (hbc : cells ≤ R.cells) (hbs : slots ≤ R.slots) (hC : a_Ctx M p R s m args meth c) (hE : a_Env X ad D cA a0 s) (hP : va_P D a_cl (a_ws ad cA h) H) (hD : va_D (a_A a0) (a_ws ad cA h)) (hS : va_S (a_A a0) s.heap H locs) (hl : a_L ad ls (a_mL M) lv)
    (hd : decode (a_b M) pc = .ok (.invokevirtual idx, 3)) (hk : a_look (a_calT (a_cn M)) idx = some (kind, z)) (hs : a_str M kind pc lv st h = some x) (kk : a_KK p l e R s m args below meth c cells slots Q D cA a0 (a_mL M) ad h x) : W p l e R s m args below meth c H locs cells slots Q (F0 m pc ls (st.map (a_cv ad))) := by
  obtain ⟨hx, hb, hr, hml, hown, hts, hfr, hlo, -, -, hcn, -⟩ := hC
  have hck := a_cal_ok hcn hk
  unfold a_str at hs
  split at hs
  · next a r =>
    split at hs
    · next e1 =>
      cases hs
      simp only [Bool.and_eq_true, Nat.ble_eq, Nat.blt_eq] at e1
      obtain ⟨⟨⟨⟨g1, g2⟩, g3⟩, g4⟩, g5⟩ := e1
      obtain ⟨k, hk0⟩ := Nat.exists_eq_add_of_le g1
      subst hk0
      have hk7 : k < 7 := Nat.lt_of_add_lt_add_left (show 1000 + k < 1000 + 7 from g2)
      have hck2 : (decide (a_cn M = 6) && decide (idx = 142)) = true := hck
      simp only [Bool.and_eq_true, decide_eq_true_eq] at hck2
      obtain ⟨q1, rfl⟩ := hck2
      rw [q1] at hown
      obtain ⟨⟨adV, h5⟩, h6⟩ := id hE.2.2.2.2
      have ek : 1000 + k - 1000 = k := Nat.add_sub_cancel_left ..
      refine va_calli (va_runV (As := []) (rest := r.map (a_cv ad)) ⟨hx, hb, hml, hown, hts⟩ (c_len l ad a0 k hk7) (cwV 0 hts (a_good (a_app_good (fun w hw => ?_) wg_len)) rfl rfl rfl ⟨rfl, by decide, by decide, by decide +kernel⟩ ⟨by show 1 + 1 ≤ _; omega, by show 8 + (1 + 11) + 20 ≤ _; omega⟩) ⟨a_blS, vk_recv h5 hk7 hS, fun U hU hW => ⟨rfl, hE.2.2.2.2.to hW (by rw [hU]; exact hS)⟩⟩ rfl rfl hl.1 rfl (lv_room (by rw [a_cv_wt]; exact g3)) hd ⟨by omega, by omega⟩) hS (fun q _ z => z.elim) (fun q z => z.elim) (fun rr u t H1 locs1 ht hvm hw hB hz hk2 hS1 => ?_)
      · simp only [List.mem_cons, List.not_mem_nil, or_false] at hw
        rcases hw with rfl | rfl | rfl | rfl
        · exact wl_142
        · exact wi_len
        · exact ws_len
        · exact wn_S
      · subst hw
        have hP1 : va_P D a_cl (a_ws ad cA h) H1 := hP.kept (fun j q hq => hk2 q.1 ((hP j q hq).lt) (fun z => z))
        have k9 := kk.keep hP1 hD hS1 hl
        rw [ek] at k9
        exact k9
    · cases hs
  · next j a r =>
    split at hs
    · next e1 =>
      cases hs
      simp only [Bool.and_eq_true, Nat.ble_eq, Nat.blt_eq] at e1
      obtain ⟨⟨⟨⟨⟨g1, g2⟩, g3⟩, g6⟩, g4⟩, g5⟩ := e1
      obtain ⟨k, hk0⟩ := Nat.exists_eq_add_of_le g1
      subst hk0
      have hk7 : k < 7 := Nat.lt_of_add_lt_add_left (show 1000 + k < 1000 + 7 from g2)
      have ek : 1000 + k - 1000 = k := Nat.add_sub_cancel_left ..
      rw [ek] at g6
      have hs31 : a_sl.getD k 0 < 2 ^ 31 := by
        have : ∀ k, k < 7 → a_sl.getD k 0 < 2 ^ 31 := by decide +kernel
        exact this k hk7
      obtain ⟨j, hj, rfl⟩ := vp_in_of (a_in_ok g6) hs31
      have hck2 : (decide (a_cn M = 6) && decide (idx = 146)) = true := hck
      simp only [Bool.and_eq_true, decide_eq_true_eq] at hck2
      obtain ⟨q1, rfl⟩ := hck2
      rw [q1] at hown
      obtain ⟨⟨adV, h5⟩, h6⟩ := id hE.2.2.2.2
      refine va_calli (va_runV (As := [.int (nI j)]) (rest := r.map (a_cv ad)) ⟨hx, hb, hml, hown, hts⟩ (c_cha l ad a0 k j hk7 hj) (cwV 1 hts (a_good (a_app_good (fun w hw => ?_) wg_cha)) rfl rfl rfl ⟨rfl, by decide, by decide, by decide +kernel⟩ ⟨by show 3 + 1 ≤ _; omega, by show 8 + (2 + 11) + 64 ≤ _; omega⟩) ⟨a_blS, vk_recv h5 hk7 hS, fun U hU hW => ⟨rfl, hE.2.2.2.2.to hW (by rw [hU]; exact hS)⟩⟩ rfl rfl hl.1 rfl (lv_room (by rw [a_cv_wt]; exact g3)) hd ⟨by omega, by omega⟩) hS (fun q _ z => z.elim) (fun q z => z.elim) (fun rr u t H1 locs1 ht hvm hw hB hz hk2 hS1 => ?_)
      · simp only [List.mem_cons, List.not_mem_nil, or_false] at hw
        rcases hw with rfl | rfl | rfl | rfl
        · exact wl_146
        · exact wi_cha
        · exact ws_cha
        · exact wn_S
      · subst hw
        have hP1 : va_P D a_cl (a_ws ad cA h) H1 := hP.kept (fun j q hq => hk2 q.1 ((hP j q hq).lt) (fun z => z))
        have k9 := kk.keep hP1 hD hS1 hl
        rw [ek, nI_clamp (by omega)] at k9
        exact k9
    · cases hs
  · cases hs
set_option maxHeartbeats 4000000 in
theorem a_sim_heap {p : Program} {e : Env} {R : Room} {s : State} {m : MethodId} {args : Array Value} {below : List Frame} {meth : Method} {c : Code} {H : Heap} {locs : List Loc} {cells slots : Nat} {Q : State → Prop} {pc ln : Nat} {i : Instr} {ls : Array Slot} {ad : Nat → Nat} {D : va_G} {cA : Nat → ClassId} {a0 : Nat} {M : a_Mth} {lv : a_LV} {st : List Value} {h : a_H} {x : Nat × a_LV × List Value × a_H} (hC : a_Ctx M p R s m args meth c) (hE : a_Env X ad D cA a0 s) (hP : va_P D a_cl (a_ws ad cA h) H) (hD : va_D (a_A a0) (a_ws ad cA h)) (hS : va_S (a_A a0) s.heap H locs) (hl : a_L ad ls (a_mL M) lv)
    (hbc : cells + (x.2.2.2.1.length - h.1.length) ≤ R.cells) (hbs : slots + (a_szs x.2.2.2.1 - a_szs h.1) ≤ R.slots) (hd : decode (a_b M) pc = .ok (i, ln)) (hln : ln = a_len i ln) (hs : a_heap X M i pc lv st h = some x) (kk : a_KK p l e R s m args below meth c cells slots Q D cA a0 (a_mL M) ad h x) : W p l e R s m args below meth c H locs cells slots Q (F0 m pc ls (st.map (a_cv ad))) := by
  rw [hln] at hd
  have hs0 := hs
  unfold a_heap at hs
  split at hs
  · exact a_sim_getf hC hE hP hD hS hl hd hs kk
  · exact a_sim_putf hC hE hP hD hS hl hd hs kk
  · exact a_sim_ald (Or.inl ⟨rfl, rfl⟩) hC hE hP hD hS hl hd hs kk
  · exact a_sim_ald (Or.inr (Or.inl ⟨rfl, rfl⟩)) hC hE hP hD hS hl hd hs kk
  · exact a_sim_ald (Or.inr (Or.inr ⟨rfl, rfl⟩)) hC hE hP hD hS hl hd hs kk
  · exact a_sim_ast (Or.inl ⟨rfl, rfl⟩) hC hE hP hD hS hl hd hs kk
  · exact a_sim_ast (Or.inr (Or.inl ⟨rfl, rfl⟩)) hC hE hP hD hS hl hd hs kk
  · exact a_sim_ast (Or.inr (Or.inr ⟨rfl, rfl⟩)) hC hE hP hD hS hl hd hs kk
  · exact a_sim_alen hC hE hP hD hS hl hd hs0 kk
  · exact a_sim_newa hC hE hP hD hS hl hbc hbs hd hs0 kk
  · exact a_sim_new hC hE hP hD hS hl hbc hbs hd hs0 kk
  · exact a_sim_ldc (Or.inl rfl) hC hE hP hD hS hl hd hs0 kk
  · exact a_sim_ldc (Or.inr (Or.inl rfl)) hC hE hP hD hS hl hd hs0 kk
  · exact a_sim_ldc (Or.inr (Or.inr rfl)) hC hE hP hD hS hl hd hs0 kk
  · exact a_sim_obj hC hP hD hS hl hd hs0 kk
  · split at hs
    · next z ez =>
      obtain ⟨z1, z2, z3, z4⟩ := z
      exact a_sim_acopy (nL := 0) (z := (z1, z2, z4)) hC hE hP hD hS hl hd ez hs kk
    · cases hs
  · split at hs
    · next kind z ez => exact a_sim_str (by omega) (by omega) hC hE hP hD hS hl hd ez hs kk
    · cases hs
  · cases hs
set_option maxHeartbeats 4000000 in
/-- A RUN OF THE SMALL MACHINE IS A RUN OF THE MACHINE -/
theorem a_sim : ∀ (n : Nat) (M : a_Mth) (pc : Nat) (lv : a_LV) (st : List Value) (h : a_H) (r : Option Value) (h' : a_H), arun X n M pc lv st h = some (r, h') → a_Good X l M pc lv st h r h' := by
  intro n
  induction n with
  | zero => intro M pc lv st h r h' hr; cases hr
  | succ n ih =>
    intro M pc lv st h r h' hr
    intro p e R s m args below meth c H locs ls cells slots Q ad D cA a0 hC hE hP hD hS hl hbc hbs hret
    unfold arun at hr
    split at hr
    · cases hr
    · next i ln ei =>
      have hd := a_at_dec hC.2.2.2.2.2.2.2.2.2.1 ei
      split at hr
      · cases hr
      · next eln =>
        have hln := Nat.eq_of_beq_eq_true eln
        split at hr
        · split at hr
          · next v ty et =>
            split at hr
            · next ef =>
              cases hr
              rw [hln] at hd
              have k := hret .ireturn pc ls ad H locs hd (Or.inl ⟨rfl, v, ty, rfl, et, ef⟩) hP hD hS a_ag.rf (fun _ => rfl)
              simp only [Nat.sub_self, Nat.add_zero] at k
              exact k
            · cases hr
          · cases hr
        · split at hr
          · next et =>
            cases hr
            rw [hln] at hd
            have k := hret .return_ pc ls ad H locs hd (Or.inr (Or.inl ⟨rfl, rfl, et⟩)) hP hD hS a_ag.rf (fun _ => rfl)
            simp only [Nat.sub_self, Nat.add_zero] at k
            exact k
          · cases hr
        · split at hr
          · next q nm et =>
            cases hr
            rw [hln] at hd
            have k := hret .areturn pc ls ad H locs hd (Or.inr (Or.inr ⟨rfl, q, nm, rfl, et⟩)) hP hD hS a_ag.rf (fun _ => rfl)
            simp only [Nat.sub_self, Nat.add_zero] at k
            exact k
          · cases hr
        · split at hr
          · next M' as rest ec =>
            split at hr
            · cases hr
            · next r1 h1 er =>
              split at hr
              · next est =>
                have hle1 := arun_le _ _ _ _ _ _ _ _ er
                have hle2 := arun_le _ _ _ _ _ _ _ _ hr
                have ih2 := ih _ _ _ _ _ _ _ hr
                have ih1 := ih _ _ _ _ _ _ _ er
                have hd3 : decode (a_b M) pc = .ok (i, a_len i 3) := by
                  have : a_len i ln = a_len i 3 := by
                    unfold a_call at ec
                    split at ec <;> first | rfl | cases ec
                  rw [← this, ← hln]
                  exact hd
                obtain ⟨b1, b2⟩ := hle1
                obtain ⟨b3, b4⟩ := hle2
                refine a_sim_call (r1 := r1) (h1 := h1) hC hE hP hD hS hl hd3 ec (fun z1 z2 z3 => a_met z3 z1 z2 ih1 ad D cA a0) (by omega) (by omega) ?_
                intro ad' H1 locs1 hP1 hD1 hag heq hS1
                have hfit : (r1.map (a_cv ad')).toList ++ rest.map (a_cv ad) = (r1.toList ++ rest).map (a_cv ad') ∧ a_L ad' ls (a_mL M) lv := by
                  unfold a_stay at est
                  simp only [Bool.or_eq_true] at est
                  have e1 : (r1.map (a_cv ad')).toList = r1.toList.map (a_cv ad') := by cases r1 <;> rfl
                  rw [List.map_append, e1]
                  rcases est with z | z
                  · have hq := heq (Nat.eq_of_beq_eq_true z)
                    subst hq
                    exact ⟨rfl, hl⟩
                  · rw [a_wf_st z hag]
                    exact ⟨rfl, a_wf_L z hag hl⟩
                rw [hfit.1]
                refine ih2 p e R s m args below meth c H1 locs1 ls _ _ Q ad' D cA a0 hC (hE.ad (fun i hi => hag i (Or.inr hi))) hP1 hD1 hS1 hfit.2 (by omega) (by omega) ?_
                intro i2 pc2 ls2 ad2 H2 locs2 g1 g2 g3 g4 g5 g6 g7
                have k := hret i2 pc2 ls2 ad2 H2 locs2 g1 g2 g3 g4 g5 (fun i hi => (g6 i (hi.imp (fun z => Nat.lt_of_lt_of_le z b1) id)).trans (hag i hi)) (fun z => by rw [g7 (by omega), heq (by omega)])
                rw [show cells + (h1.1.length - h.1.length) + (h'.1.length - h1.1.length) = cells + (h'.1.length - h.1.length) by omega, show slots + (a_szs h1.1 - a_szs h.1) + (a_szs h'.1 - a_szs h1.1) = slots + (a_szs h'.1 - a_szs h.1) by omega]
                exact k
              · cases hr
          · split at hr
            · next pc' lv' st' ep =>
              have ih2 := ih _ _ _ _ _ _ _ hr
              refine a_sim_pure hC.1 hC.2.1 hd hln ep hl (fun ls' hl' => ?_)
              exact ih2 p e R s m args below meth c H locs ls' cells slots Q ad D cA a0 hC hE hP hD hS hl' hbc hbs hret
            · split at hr
              · next pc' lv' st' h1 eh =>
                have hle1 := a_heap_le eh
                have hle2 := arun_le _ _ _ _ _ _ _ _ hr
                have ih2 := ih _ _ _ _ _ _ _ hr
                obtain ⟨b1, b2⟩ := hle1
                obtain ⟨b3, b4⟩ := hle2
                have b1' : h.1.length ≤ h1.1.length := b1
                have b2' : a_szs h.1 ≤ a_szs h1.1 := b2
                refine a_sim_heap hC hE hP hD hS hl (by show cells + (h1.1.length - h.1.length) ≤ _; omega) (by show slots + (a_szs h1.1 - a_szs h.1) ≤ _; omega) hd hln eh ?_
                intro ad' H1 locs1 ls1 hP1 hD1 hS1 hag heq hl1
                refine ih2 p e R s m args below meth c H1 locs1 ls1 _ _ Q ad' D cA a0 hC (hE.ad (fun i hi => hag i (Or.inr hi))) hP1 hD1 hS1 hl1 (by show cells + (h1.1.length - h.1.length) + _ ≤ _; omega) (by show slots + (a_szs h1.1 - a_szs h.1) + _ ≤ _; omega) ?_
                intro i2 pc2 ls2 ad2 H2 locs2 g1 g2 g3 g4 g5 g6 g7
                have k := hret i2 pc2 ls2 ad2 H2 locs2 g1 g2 g3 g4 g5 (fun i hi => (g6 i (hi.imp (fun z => Nat.lt_of_lt_of_le z b1') id)).trans (hag i hi)) (fun z => by rw [g7 (by omega), heq (by show h1.1.length = _; omega)])
                show W p l e R s m args below meth c H2 locs2 (cells + (h1.1.length - h.1.length) + (h'.1.length - h1.1.length)) (slots + (a_szs h1.1 - a_szs h.1) + (a_szs h'.1 - a_szs h1.1)) Q _
                rw [show cells + (h1.1.length - h.1.length) + (h'.1.length - h1.1.length) = cells + (h'.1.length - h.1.length) by omega, show slots + (a_szs h1.1 - a_szs h.1) + (a_szs h'.1 - a_szs h1.1) = slots + (a_szs h'.1 - a_szs h.1) by omega]
                exact k
              · cases hr
end ARUN
end
section
/-! THE CLAIM OUT OF ONE WALK OF THE LAW'S BODY. Your part is whole_start (and what it stands on); all else here is the same for every law, but numbers. -/
def R_law : String := "BillWallLaw"
def lw_P (b : Addr) (xs : List Int32) (args : Array Value) (s : State) : Prop := args = #[.ref b] ∧ s.IntsAt b xs ∧ xs.length ≤ 2560 ∧ (Jvm.Cond.and given_1 narrow_1).before args s = true
def lw_Q (_ : Array Value) (s : State) (o : Outcome) (t : State) : Prop := o = .returned (some (.int 1)) ∧ Framed s o t [] 97 6780
def lw_Z (below : List Frame) (a : Array Value) (s : State) : State → Prop := fun t => ∃ o, t.status = .running ∧ Ended t below o ∧ lw_Q a s o t
/-- the law's own end, with 1 on the stack, nothing written that was there before, its room as the claim has it -/
theorem lw_ret {p : Program} {l : Launch} {e : Env} {s : State} {m : MethodId} {below : List Frame} {meth : Method} {c : Code} {b : Nat} (hx : p.tables.exec = Jvm.exec) (hb : c.code = code) (hr : meth.sig.returnType = ret) (hlocks : meth.locks = false) {pc : Nat} {H : Heap} {ls : Array Slot} (hdg : decode code pc = .ok (.ireturn, 1)) : W p l e room_1 s m #[Value.ref b] below meth c H [] 97 6780 (lw_Z below #[Value.ref b] s) (F0 m pc ls [.int 1]) := by
  intro T hT X
  obtain ⟨fs, hret, hrun, hended, hW, hframe⟩ := X.leave (v := some (.int 1)) (hlocks := hlocks) (fun h => by rw [hr] at h; cases h)
  have hmeth' : T.vm.method? m = some meth := X.method'
  refine ⟨T.setFrames fs, ?_, .returned (some (.int 1)), hrun, hended, rfl, ⟨_, rfl⟩, hW, hframe⟩
  jvm_step X.here [X.here.top, hx, hb, hdg, hmeth', hr, ret, narrow_b1]
  (try refine ⟨rfl, ?_⟩); (try refine ⟨rfl, ?_⟩)
  first | (intro acts; rw [hret _ acts rfl rfl rfl]) | rw [hret _ _ rfl rfl rfl]
  exact Steps.refl _
/-- what holds at the law's entry: the machine, the code, the tables' words (any of lw_tbl by 'hts w (by decide +kernel)'), the script of L ints xs at the cell b, what the Statement gives of the start (any of its parts by flat_of_before) -/
def lw_At (p : Program) (s : State) (m : MethodId) (meth : Method) (c : Code) (b L : Nat) (xs : Nat → Int32) : Prop :=
  p.tables.exec = Jvm.exec ∧ c.code = code ∧ meth.sig.returnType = ret ∧ c.maxLocals = 4 ∧ s.vm.findClass R_law = some m.cls ∧ (∀ w ∈ lw_tbl, w.before #[Value.ref b] s = true) ∧ va_X b L xs s s.heap ∧ b < s.heap.size ∧ meth.locks = false ∧ (Jvm.Cond.and given_1 narrow_1).before #[Value.ref b] s = true
def a_sx : List Nat := [150, 152, 153, 154, 156, 158, 160]
def a_tm (i : Nat) : Term := .string "BillWall$Reader" (a_sx.getD i 0)
theorem a_flex : ∀ i, i < 7 → Cond.exactly (a_tm i) "java/lang/String" ∈ flatC (Jvm.Cond.and given_1 narrow_1) := by decide +kernel
theorem a_flco : ∀ i, i < 7 → Cond.eq (.field (a_tm i) "java/lang/String" "coder" "B") (.int 0) ∈ flatC (Jvm.Cond.and given_1 narrow_1) := by decide +kernel
theorem a_flar : ∀ i, i < 7 → Cond.arrayOf (.field (a_tm i) "java/lang/String" "value" "[B") .byte ∈ flatC (Jvm.Cond.and given_1 narrow_1) := by decide +kernel
theorem a_flle : ∀ i, i < 7 → Cond.eq (.length (.field (a_tm i) "java/lang/String" "value" "[B")) (.int (Int32.ofNat (a_sl.getD i 0))) ∈ flatC (Jvm.Cond.and given_1 narrow_1) := by decide +kernel
theorem a_flel : ∀ i, i < 7 → ∀ j, j < a_sl.getD i 0 → Cond.eq (.elem (.field (a_tm i) "java/lang/String" "value" "[B") (.int (Int32.ofNat j))) (.int ((a_sc.getD i []).getD j 0)) ∈ flatC (Jvm.Cond.and given_1 narrow_1) := by decide +kernel
theorem a_flne : ∀ i, i < 7 → ∀ j, j < 7 → i ≠ j → (Cond.not (Cond.eq (a_tm i) (a_tm j)) ∈ flatC (Jvm.Cond.and given_1 narrow_1) ∨ Cond.not (Cond.eq (a_tm j) (a_tm i)) ∈ flatC (Jvm.Cond.and given_1 narrow_1)) := by decide +kernel
theorem a_flcs : Cond.eq (.static "java/lang/String" "COMPACT_STRINGS" "Z") (.int 1) ∈ flatC (Jvm.Cond.and given_1 narrow_1) := by decide +kernel
theorem a_flsi : Cond.isRef (.static "jdk/internal/util/Preconditions" "SIOOBE_FORMATTER" "Ljava/util/function/BiFunction;") ∈ flatC (Jvm.Cond.and given_1 narrow_1) := by decide +kernel
theorem a_tb_cs : Cond.laysStatic "java/lang/String" "COMPACT_STRINGS" "Z" ∈ lw_tbl := by decide +kernel
theorem a_tb_si : Cond.laysStatic "jdk/internal/util/Preconditions" "SIOOBE_FORMATTER" "Ljava/util/function/BiFunction;" ∈ lw_tbl := by decide +kernel
theorem a_tb_sr : ∀ i, i < 7 → Cond.stringRef "BillWall$Reader" (a_sx.getD i 0) (a_strs.getD i "") ∈ lw_tbl := by decide +kernel
theorem a_ldcS : ∀ e ∈ a_ldcT 6, (match e.2.1 with
    | .inr q => q.1 < 7 ∧ e.1 = a_sx.getD q.1 0 ∧ q.2 = a_strs.getD q.1 ""
    | .inl _ => True) := by
  intro e he
  have h : (a_ldcT 6).all (fun e => match e.2.1 with
    | .inr q => decide (q.1 < 7 ∧ e.1 = a_sx.getD q.1 0 ∧ q.2 = a_strs.getD q.1 "")
    | .inl _ => true) = true := by decide +kernel
  have := List.all_eq_true.mp h e he
  obtain ⟨i, q | q, z⟩ := e
  · trivial
  · exact of_decide_eq_true this
theorem a_ins0 : Cond.instantiable RX0 12 ∈ lw_tbl := by decide +kernel
theorem a_ins1 : Cond.instantiable RX1 2 ∈ lw_tbl := by decide +kernel
theorem a_ins2 : Cond.instantiable RX2 4 ∈ lw_tbl := by decide +kernel
theorem a_ins3 : Cond.instantiable RX3 7 ∈ lw_tbl := by decide +kernel
theorem a_ins4 : Cond.instantiable RX4 11 ∈ lw_tbl := by decide +kernel
theorem a_ins5 : Cond.instantiable RX5 12 ∈ lw_tbl := by decide +kernel
theorem a_ins6 : Cond.instantiable RX6 8 ∈ lw_tbl := by decide +kernel
theorem a_ins7 : Cond.instantiable RX7 8 ∈ lw_tbl := by decide +kernel
theorem a_ins8 : Cond.instantiable RX8 10 ∈ lw_tbl := by decide +kernel
theorem a_ins9 : Cond.instantiable RX9 36 ∈ lw_tbl := by decide +kernel
set_option maxHeartbeats 4000000 in
theorem a_env0 {p : Program} {s : State} {m : MethodId} {meth : Method} {c : Code} {b L : Nat} {xs : Nat → Int32} (C0 : lw_At p s m meth c b L xs) : ∃ (ad : Nat → Nat) (D : va_G) (cA : Nat → ClassId), a_Env (some (L, xs)) ad D cA s.heap.size s ∧ ad 2000 = b := by
  obtain ⟨hx, hb, hr, hml, hown, hts, hX, hbl, hlocks, hgv⟩ := C0
  have hs := flat_of_before _ hgv
  obtain ⟨c0, iS0, hKn0⟩ := u_known (C := RX0) (T := TX0) (N := 12) (n := 12) hts (fun w hw => a_clW0 0 (by omega) (RX0, TX0, 12) rfl w hw) (hts _ a_ins0)
  obtain ⟨c1, iS1, hKn1⟩ := u_known (C := RX1) (T := TX1) (N := 2) (n := 2) hts (fun w hw => a_clW0 1 (by omega) (RX1, TX1, 2) rfl w hw) (hts _ a_ins1)
  obtain ⟨c2, iS2, hKn2⟩ := u_known (C := RX2) (T := TX2) (N := 4) (n := 4) hts (fun w hw => a_clW0 2 (by omega) (RX2, TX2, 4) rfl w hw) (hts _ a_ins2)
  obtain ⟨c3, iS3, hKn3⟩ := u_known (C := RX3) (T := TX3) (N := 7) (n := 7) hts (fun w hw => a_clW0 3 (by omega) (RX3, TX3, 7) rfl w hw) (hts _ a_ins3)
  obtain ⟨c4, iS4, hKn4⟩ := u_known (C := RX4) (T := TX4) (N := 11) (n := 11) hts (fun w hw => a_clW0 4 (by omega) (RX4, TX4, 11) rfl w hw) (hts _ a_ins4)
  obtain ⟨c5, iS5, hKn5⟩ := u_known (C := RX5) (T := TX5) (N := 12) (n := 12) hts (fun w hw => a_clW0 5 (by omega) (RX5, TX5, 12) rfl w hw) (hts _ a_ins5)
  obtain ⟨c6, iS6, hKn6⟩ := u_known (C := RX6) (T := TX6) (N := 8) (n := 8) hts (fun w hw => a_clW0 6 (by omega) (RX6, TX6, 8) rfl w hw) (hts _ a_ins6)
  obtain ⟨c7, iS7, hKn7⟩ := u_known (C := RX7) (T := TX7) (N := 8) (n := 8) hts (fun w hw => a_clW0 7 (by omega) (RX7, TX7, 8) rfl w hw) (hts _ a_ins7)
  obtain ⟨c8, iS8, hKn8⟩ := u_known (C := RX8) (T := TX8) (N := 10) (n := 10) hts (fun w hw => a_clW0 8 (by omega) (RX8, TX8, 10) rfl w hw) (hts _ a_ins8)
  obtain ⟨c9, iS9, hKn9⟩ := u_known (C := RX9) (T := TX9) (N := 36) (n := 36) hts (fun w hw => a_clW0 9 (by omega) (RX9, TX9, 36) rfl w hw) (hts _ a_ins9)
  obtain ⟨dC, dI, hKc⟩ : ∃ (dC : Nat → ClassId) (dI : Nat → Nat → Nat), ∀ (k : Nat) (q : vw_C), a_cl[k]? = some q → u_Kn s q.1 q.2.1 q.2.2 (dC k) (dI k) := by
    refine ⟨fun k => if k = 0 then c0 else if k = 1 then c1 else if k = 2 then c2 else if k = 3 then c3 else if k = 4 then c4 else if k = 5 then c5 else if k = 6 then c6 else if k = 7 then c7 else if k = 8 then c8 else c9, fun k => if k = 0 then iS0 else if k = 1 then iS1 else if k = 2 then iS2 else if k = 3 then iS3 else if k = 4 then iS4 else if k = 5 then iS5 else if k = 6 then iS6 else if k = 7 then iS7 else if k = 8 then iS8 else iS9, ?_⟩
    intro k q hq
    match k, hq with
    | 0, hq => cases hq; exact hKn0
    | 1, hq => cases hq; exact hKn1
    | 2, hq => cases hq; exact hKn2
    | 3, hq => cases hq; exact hKn3
    | 4, hq => cases hq; exact hKn4
    | 5, hq => cases hq; exact hKn5
    | 6, hq => cases hq; exact hKn6
    | 7, hq => cases hq; exact hKn7
    | 8, hq => cases hq; exact hKn8
    | 9, hq => cases hq; exact hKn9
    | k + 10, hq => exact absurd (a_cl_lt hq) (by omega)
  obtain ⟨cI, kI, mI, g1, g2, g3⟩ := Cond.arrayClass_spec (hts _ (a_LT_tbl (a_has_in a_arr_all.1)))
  obtain ⟨cZ, kZ, mZ, g4, g5, g6⟩ := Cond.arrayClass_spec (hts _ (a_LT_tbl (a_has_in a_arr_all.2.1)))
  obtain ⟨cC, kC, mC, g7, g8, g9⟩ := Cond.arrayClass_spec (hts _ (a_LT_tbl (a_has_in a_arr_all.2.2)))
  have hA : ∀ a : Nat, a < s.heap.size → ¬ a_A s.heap.size a := fun a h => Nat.not_le.mpr h
  obtain ⟨adK, adV, hK, hev⟩ := vk_Sof (tm := a_tm) (len := a_sl) (byt := a_sc) (N := 7) (A := a_A s.heap.size) (by decide +kernel) (fun i hi => hs _ (a_flex i hi)) (fun i hi => hs _ (a_flco i hi)) (fun i hi => hs _ (a_flar i hi)) (fun i hi => hs _ (a_flle i hi)) (fun i hi j hj => hs _ (a_flel i hi j hj)) (fun i j hi hj hij => (a_flne i hi j hj hij).imp (hs _) (hs _)) hA
  refine ⟨fun i => if i = 2000 then b else adK (i - 1000), (dC, dI), fun t => if t = 0 then cI else if t = 1 then cZ else cC, ⟨⟨hKc, ?_⟩, Nat.le_refl _, ?_, ?_, ⟨adV, ?_⟩, ?_, ?_, ?_⟩, by simp⟩
  · intro k q hq
    match k, hq with
    | 0, hq => cases hq; exact ⟨fun n z => ⟨fun k h => (by cases h), kI, g2, mI, g3⟩, g1⟩
    | 1, hq => cases hq; exact ⟨fun n z => ⟨fun k h => (by cases h), kZ, g5, mZ, g6⟩, g4⟩
    | 2, hq => cases hq; exact ⟨fun n z => ⟨fun k h => (by cases h), kC, g8, mC, g9⟩, g7⟩
    | k + 3, hq => simp [a_tys] at hq
  · intro w hw hn
    have h := hts w hw
    cases w <;> first | (cases hn; done) | exact va_Nw.of rfl h
  · intro L' xs' e
    cases e
    exact ⟨by simpa using hX, by simpa using hbl, by simpa using hbl⟩
  · have e1 : (fun k => if 1000 + k = 2000 then b else adK (1000 + k - 1000)) = fun k => if k = 1000 then b else adK k := by
      funext k
      by_cases h : k = 1000
      · rw [if_pos h, if_pos (by omega)]
      · rw [if_neg h, if_neg (by omega), Nat.add_sub_cancel_left]
    show vk_S 7 a_sl a_sc (fun k => if 1000 + k = 2000 then b else adK (1000 + k - 1000)) adV _ _ _
    rw [e1]
    refine ⟨fun i hi => ?_, fun i j hi hj => ?_⟩
    · have e2 : (if i = 1000 then b else adK i) = adK i := if_neg (by omega)
      simp only [e2]
      exact hK.1 i hi
    · have e2 : (if i = 1000 then b else adK i) = adK i := if_neg (by omega)
      have e3 : (if j = 1000 then b else adK j) = adK j := if_neg (by omega)
      simp only [e2, e3]
      exact hK.2 i j hi hj
  · intro idx k tx pl q
    obtain ⟨h1, h2, h3⟩ := a_ldcS _ (a_look_mem q)
    simp only at h1 h2 h3
    subst h2; subst h3
    show vk_R (a_Cn 6) _ _ (if 1000 + k = 2000 then b else adK (1000 + k - 1000)) s
    rw [if_neg (by omega), Nat.add_sub_cancel_left]
    exact vk_R.of (hts _ (a_tb_sr k h1)) (hev k h1)
  · exact va_Zof (hts _ a_tb_cs) (hts _ (a_LT_tbl wn_S)) (va_eqi (hs _ a_flcs)) hA
  · exact va_Zqof (hts _ a_tb_si) (hts _ (a_LT_tbl wn_P)) (hs _ a_flsi) hA
set_option maxHeartbeats 4000000 in
/-- the law's walk out of a run of the small machine -/
theorem a_start {p : Program} {e : Env} {s : State} {m : MethodId} {below : List Frame} {meth : Method} {c : Code} (l : Launch) {b L : Nat} {xs : Nat → Int32} (C0 : lw_At p s m meth c b L xs) {n : Nat} {h' : a_H} (hrun : arun (some (L, xs)) n mL_law 0 [some (.ref 2000), none, none, none] [] ([], fun _ _ => 0) = some (some (.int 1), h')) (h97 : h'.1.length ≤ 97) (hsz : a_szs h'.1 ≤ 6780) :
    W p l e room_1 s m #[Value.ref b] below meth c s.heap [] 0 0 (lw_Z below #[Value.ref b] s) (entryFrame m ([Value.ref b] : List Value).toArray 4) := by
  obtain ⟨ad, D, cA, hE, had⟩ := a_env0 C0
  obtain ⟨hx, hb, hr, hml, hown, hts, hX, hbl, hlocks, hgv⟩ := C0
  have hC : a_Ctx mL_law p room_1 s m #[Value.ref b] meth c := ⟨hx, hb, hr, hml, hown, fun w hw => hts w (a_LT_tbl hw), Nat.le_refl _, Nat.le_refl _, fun z => absurd z (by decide), cIL_law, by decide, hlocks⟩
  have hl := a_entry (M := mL_law) (as := [.ref 2000]) (ad := ad) (by decide)
  have em : ([Value.ref 2000] : List Value).map (a_cv ad) = [.ref b] := by simp [a_cv, had]
  rw [em] at hl
  rw [lg_entry_eq]
  have e4 : a_mL mL_law = 4 := rfl
  rw [e4] at hl
  generalize ((lg_sl [Value.ref b] ++ List.replicate (4 - (lg_sl [Value.ref b]).length) Slot.unset).toArray) = ls at hl ⊢
  refine a_sim (X := some (L, xs)) (l := l) n mL_law 0 _ [] ([], fun _ _ => 0) (some (.int 1)) h' hrun p e room_1 s m #[Value.ref b] below meth c s.heap [] ls 0 0 _ ad D cA s.heap.size hC hE (fun k q hk => by simp [a_ws] at hk) ⟨fun i j p q hi => by simp [a_ws] at hi, fun k q hk => by simp [a_ws] at hk⟩ va_S.rf hl ?_ ?_ ?_
  · show 0 + (h'.1.length - 0) ≤ 97
    omega
  · show 0 + (a_szs h'.1 - 0) ≤ 6780
    omega
  · intro i pc2 ls2 ad' H' locs' hd hR hP' hD' hS' hag heq
    rcases hR with ⟨rfl, v, ty, hv, ht, hf⟩ | ⟨-, hv, -⟩ | ⟨-, q, nm, hv, -⟩
    · refine va_forget (fun q hq => hS'.2.2 q hq) ?_
      refine W.widen (k := 97) (n := 6780) (by show 0 + (h'.1.length - 0) ≤ 97; omega) (by show 0 + (a_szs h'.1 - 0) ≤ 6780; omega) ?_
      exact lw_ret hx hb hr hlocks hd
    · cases hv
    · cases hv
end
section
/-! THE CELLS behind the two constructors; runs of methods over them, from behind: Wp -/
def a_SH : List a_C := [.inl (8, [some (some 1), some (some 7), some (some 13), some (some 15), some (some 23), some (some 32), some (some 41), some (some 47), some (some 50), some (some 71)]),
  .inl (5, [none, none, none, none, none, none, none, some (some 2), some (some 3), some (some 4), some (some 5), some (some 6)]),
  .inr (0, 16),
  .inr (0, 8),
  .inr (0, 12),
  .inr (0, 12),
  .inr (0, 12),
  .inl (5, [none, none, none, none, none, none, none, some (some 8), some (some 9), some (some 10), some (some 11), some (some 12)]),
  .inr (0, 16),
  .inr (0, 8),
  .inr (0, 12),
  .inr (0, 12),
  .inr (0, 12),
  .inl (6, [some (some 14), none, none, none, none, none, none, none]),
  .inr (2, 300),
  .inl (0, [some (some 1), none, none, none, some (some 16), some (some 17), some (some 18), some (some 19), some (some 20), none, some (some 21), some (some 22)]),
  .inr (0, 20),
  .inr (0, 20),
  .inr (0, 20),
  .inr (0, 20),
  .inr (0, 6),
  .inr (0, 128),
  .inr (0, 128),
  .inl (1, [some (some 24), none]),
  .inl (0, [some (some 1), none, none, none, some (some 25), some (some 26), some (some 27), some (some 28), some (some 29), none, some (some 30), some (some 31)]),
  .inr (0, 20),
  .inr (0, 20),
  .inr (0, 20),
  .inr (0, 20),
  .inr (0, 6),
  .inr (0, 128),
  .inr (0, 128),
  .inl (1, [some (some 33), none]),
  .inl (0, [some (some 1), none, none, none, some (some 34), some (some 35), some (some 36), some (some 37), some (some 38), none, some (some 39), some (some 40)]),
  .inr (0, 20),
  .inr (0, 20),
  .inr (0, 20),
  .inr (0, 20),
  .inr (0, 6),
  .inr (0, 128),
  .inr (0, 128),
  .inl (7, [some (some 1), some (some 42), some (some 43), some (some 44), some (some 45), some (some 46), none, none]),
  .inr (0, 128),
  .inr (0, 20),
  .inr (0, 20),
  .inr (0, 20),
  .inr (0, 20),
  .inl (2, [some (some 1), some (some 48), some (some 49), none]),
  .inr (0, 20),
  .inr (0, 128),
  .inl (4, [some (some 1), some (some 51), some (some 59), some (some 65), none, none, none, none, none, none, none]),
  .inl (0, [some (some 1), none, none, none, some (some 52), some (some 53), some (some 54), some (some 55), some (some 56), none, some (some 57), some (some 58)]),
  .inr (0, 20),
  .inr (0, 20),
  .inr (0, 20),
  .inr (0, 20),
  .inr (0, 6),
  .inr (0, 128),
  .inr (0, 128),
  .inl (7, [some (some 1), some (some 60), some (some 61), some (some 62), some (some 63), some (some 64), none, none]),
  .inr (0, 128),
  .inr (0, 20),
  .inr (0, 20),
  .inr (0, 20),
  .inr (0, 20),
  .inl (7, [some (some 1), some (some 66), some (some 67), some (some 68), some (some 69), some (some 70), none, none]),
  .inr (0, 128),
  .inr (0, 20),
  .inr (0, 20),
  .inr (0, 20),
  .inr (0, 20),
  .inl (3, [some (some 1), none, some (some 72), some (some 73), some (some 74), some (some 75), some (some 76)]),
  .inr (0, 128),
  .inr (0, 128),
  .inr (0, 10),
  .inr (0, 10),
  .inr (0, 1024),
  .inl (9, [some (some 78), some (some 79), some (some 80), some (some 81), some (some 82), none, some (some 83), some (some 84), some (some 85), none, none, none, some (some 86), none, none, none, none, none, none, none, none, none, some (some 87), some (some 88), some (some 89), some (some 90), none, some (some 91), some (some 92), some (some 93), some (some 94), some (some 95), some (some 96), none, none, none]),
  .inr (0, 800),
  .inr (1, 2),
  .inr (0, 10),
  .inr (0, 32),
  .inr (1, 256),
  .inr (0, 24),
  .inr (0, 24),
  .inr (0, 24),
  .inr (0, 300),
  .inr (0, 20),
  .inr (0, 20),
  .inr (0, 20),
  .inr (0, 20),
  .inr (0, 10),
  .inr (0, 10),
  .inr (0, 10),
  .inr (0, 128),
  .inr (0, 10),
  .inr (0, 1024)]

def abody (X : a_X) (f : a_Mth → Nat → a_LV → List Value → a_H → Option (Option Value × a_H)) (M : a_Mth) (pc : Nat) (lv : a_LV) (st : List Value) (h : a_H) : Option (Option Value × a_H) := match a_at M pc with
    | none => none
    | some (i, ln) => match Nat.beq ln (a_len i ln) with
      | false => none
      | true => match i with
        | .ireturn => match st, a_rt M with
          | [.int v], some ty => match a_fit ty v with
            | true => some (some (.int v), h)
            | false => none
          | _, _ => none
        | .return_ => match st, a_rt M with
          | [], none => some (none, h)
          | _, _ => none
        | .areturn => match st, a_rt M with
          | [.ref q], some (.object _) => some (some (.ref q), h)
          | _, _ => none
        | i => match a_call M i st h.1 with
          | some (M', as, rest) => match f M' 0 (a_loc M' as) [] h with
            | none => none
            | some (r, h') => match a_stay h h' lv rest with
              | true => f M (pc + 3) lv (r.toList ++ rest) h'
              | false => none
          | none => match a_pure i pc lv st with
            | some (pc', lv', st') => f M pc' lv' st' h
            | none => match a_heap X M i pc lv st h with
              | some (pc', lv', st', h') => f M pc' lv' st' h'
              | none => none
theorem arun_s (X : a_X) (n : Nat) (M : a_Mth) (pc : Nat) (lv : a_LV) (st : List Value) (h : a_H) : arun X (n + 1) M pc lv st h = abody X (arun X n) M pc lv st h := rfl
theorem abody_mono {X : a_X} {f g : a_Mth → Nat → a_LV → List Value → a_H → Option (Option Value × a_H)} (hfg : ∀ M pc lv st h R, f M pc lv st h = some R → g M pc lv st h = some R) {M : a_Mth} {pc : Nat} {lv : a_LV} {st : List Value} {h : a_H} {R : Option Value × a_H} (hr : abody X f M pc lv st h = some R) : abody X g M pc lv st h = some R := by
  unfold abody at hr ⊢
  cases ha : a_at M pc with
  | none => rw [ha] at hr; cases hr
  | some p =>
    obtain ⟨i, ln⟩ := p
    rw [ha] at hr
    simp only at hr ⊢
    cases hb : Nat.beq ln (a_len i ln) with
    | false => rw [hb] at hr; cases hr
    | true =>
      rw [hb] at hr
      simp only at hr ⊢
      have go : ∀ {R : Option Value × a_H}, (match a_call M i st h.1 with
          | some (M', as, rest) => match f M' 0 (a_loc M' as) [] h with
            | none => none
            | some (r, h') => match a_stay h h' lv rest with
              | true => f M (pc + 3) lv (r.toList ++ rest) h'
              | false => none
          | none => match a_pure i pc lv st with
            | some (pc', lv', st') => f M pc' lv' st' h
            | none => match a_heap X M i pc lv st h with
              | some (pc', lv', st', h') => f M pc' lv' st' h'
              | none => none) = some R → (match a_call M i st h.1 with
          | some (M', as, rest) => match g M' 0 (a_loc M' as) [] h with
            | none => none
            | some (r, h') => match a_stay h h' lv rest with
              | true => g M (pc + 3) lv (r.toList ++ rest) h'
              | false => none
          | none => match a_pure i pc lv st with
            | some (pc', lv', st') => g M pc' lv' st' h
            | none => match a_heap X M i pc lv st h with
              | some (pc', lv', st', h') => g M pc' lv' st' h'
              | none => none) = some R := by
        intro R hr
        cases hc : a_call M i st h.1 with
        | some q =>
          obtain ⟨M', as, rest⟩ := q
          rw [hc] at hr
          simp only at hr ⊢
          cases hf : f M' 0 (a_loc M' as) [] h with
          | none => rw [hf] at hr; cases hr
          | some q =>
            obtain ⟨r, h'⟩ := q
            rw [hf] at hr
            rw [hfg _ _ _ _ _ _ hf]
            simp only at hr ⊢
            cases hs : a_stay h h' lv rest with
            | false => rw [hs] at hr; cases hr
            | true =>
              rw [hs] at hr
              simp only at hr ⊢
              exact hfg _ _ _ _ _ _ hr
        | none =>
          rw [hc] at hr
          simp only at hr ⊢
          cases hp : a_pure i pc lv st with
          | some q =>
            rw [hp] at hr
            exact hfg _ _ _ _ _ _ hr
          | none =>
            rw [hp] at hr
            simp only at hr ⊢
            cases hh : a_heap X M i pc lv st h with
            | none => rw [hh] at hr; cases hr
            | some q =>
              rw [hh] at hr
              exact hfg _ _ _ _ _ _ hr
      cases i <;> first | exact hr | exact go hr
theorem arun_mono1 {X : a_X} : ∀ (n : Nat) (M : a_Mth) (pc : Nat) (lv : a_LV) (st : List Value) (h : a_H) (R : Option Value × a_H), arun X n M pc lv st h = some R → arun X (n + 1) M pc lv st h = some R
  | 0, M, pc, lv, st, h, R, hr => by cases hr
  | n + 1, M, pc, lv, st, h, R, hr => by
    rw [arun_s] at hr ⊢
    exact abody_mono (fun M pc lv st h R q => arun_mono1 n M pc lv st h R q) hr
theorem arun_mono {X : a_X} {n k : Nat} (hk : n ≤ k) {M : a_Mth} {pc : Nat} {lv : a_LV} {st : List Value} {h : a_H} {R : Option Value × a_H} (hr : arun X n M pc lv st h = some R) : arun X k M pc lv st h = some R := by
  induction hk with
  | refl => exact hr
  | step _ ih => exact arun_mono1 _ _ _ _ _ _ _ ih
/-- without a script: the same with one -/
theorem a_heap_X {X : a_X} {M : a_Mth} {i : Instr} {pc : Nat} {lv : a_LV} {st : List Value} {h : a_H} {x : Nat × a_LV × List Value × a_H} (hs : a_heap none M i pc lv st h = some x) : a_heap X M i pc lv st h = some x := by
  have hald : ∀ tc, a_ald none tc pc lv st h = some x → a_ald X tc pc lv st h = some x := by
    intro tc hs
    unfold a_ald at hs ⊢
    split at hs
    · split at hs
      · exact hs
      · cases hs
      · cases hs
    · cases hs
  cases i <;> first | exact hs | exact hald _ hs | skip
  unfold a_heap at hs ⊢
  simp only at hs ⊢
  split at hs
  · split at hs
    · exact hs
    · cases hs
    · cases hs
  · cases hs
theorem arun_X {X : a_X} : ∀ (n : Nat) (M : a_Mth) (pc : Nat) (lv : a_LV) (st : List Value) (h : a_H) (R : Option Value × a_H), arun none n M pc lv st h = some R → arun X n M pc lv st h = some R := by
  intro n
  induction n with
  | zero => intro M pc lv st h R hr; cases hr
  | succ n ih =>
    intro M pc lv st h R hr
    rw [arun_s] at hr ⊢
    have h1 := abody_mono (g := arun X n) ih hr
    unfold abody at h1 ⊢
    cases ha : a_at M pc with
    | none => rw [ha] at h1; cases h1
    | some p =>
      obtain ⟨i, ln⟩ := p
      rw [ha] at h1
      simp only at h1 ⊢
      cases hb : Nat.beq ln (a_len i ln) with
      | false => rw [hb] at h1; cases h1
      | true =>
        rw [hb] at h1
        simp only at h1 ⊢
        have go : ∀ {R : Option Value × a_H}, (match a_call M i st h.1 with
          | some (M', as, rest) => match arun X n M' 0 (a_loc M' as) [] h with
            | none => none
            | some (r, h') => match a_stay h h' lv rest with
              | true => arun X n M (pc + 3) lv (r.toList ++ rest) h'
              | false => none
          | none => match a_pure i pc lv st with
            | some (pc', lv', st') => arun X n M pc' lv' st' h
            | none => match a_heap none M i pc lv st h with
              | some (pc', lv', st', h') => arun X n M pc' lv' st' h'
              | none => none) = some R → (match a_call M i st h.1 with
          | some (M', as, rest) => match arun X n M' 0 (a_loc M' as) [] h with
            | none => none
            | some (r, h') => match a_stay h h' lv rest with
              | true => arun X n M (pc + 3) lv (r.toList ++ rest) h'
              | false => none
          | none => match a_pure i pc lv st with
            | some (pc', lv', st') => arun X n M pc' lv' st' h
            | none => match a_heap X M i pc lv st h with
              | some (pc', lv', st', h') => arun X n M pc' lv' st' h'
              | none => none) = some R := by
          intro R hr
          cases hc : a_call M i st h.1 with
          | some q => rw [hc] at hr; exact hr
          | none =>
            rw [hc] at hr
            simp only at hr ⊢
            cases hp : a_pure i pc lv st with
            | some q => rw [hp] at hr; exact hr
            | none =>
              rw [hp] at hr
              simp only at hr ⊢
              cases hh : a_heap none M i pc lv st h with
              | none => rw [hh] at hr; cases hr
              | some q => rw [hh] at hr; rw [a_heap_X hh]; exact hr
        cases i <;> first | exact h1 | exact go h1
end
section
/-! runs, from behind: what a run from here comes to -/
def Wp (X : a_X) (M : a_Mth) (pc : Nat) (lv : a_LV) (st : List Value) (m : Nat → Nat → Int32) (Q : Option Value → (Nat → Nat → Int32) → Prop) : Prop := ∃ (n : Nat) (r : Option Value) (m' : Nat → Nat → Int32), arun X n M pc lv st (a_SH, m) = some (r, (a_SH, m')) ∧ Q r m'
def Call (X : a_X) (M : a_Mth) (as : List Value) (m : Nat → Nat → Int32) (Q : Option Value → (Nat → Nat → Int32) → Prop) : Prop := Wp X M 0 (a_loc M as) [] m Q
def CallI (X : a_X) (M : a_Mth) (as : List Value) (m : Nat → Nat → Int32) (Q : Int32 → (Nat → Nat → Int32) → Prop) : Prop := Call X M as m (fun r m' => ∃ v, r = some (.int v) ∧ Q v m')
def CallV (X : a_X) (M : a_Mth) (as : List Value) (m : Nat → Nat → Int32) (Q : (Nat → Nat → Int32) → Prop) : Prop := Call X M as m (fun r m' => r = none ∧ Q m')
def CallR (X : a_X) (M : a_Mth) (as : List Value) (m : Nat → Nat → Int32) (Q : Nat → (Nat → Nat → Int32) → Prop) : Prop := Call X M as m (fun r m' => ∃ v, r = some (.ref v) ∧ Q v m')
section WP
variable {X : a_X} {M : a_Mth} {pc : Nat} {lv : a_LV} {st : List Value} {m : Nat → Nat → Int32} {Q Q' : Option Value → (Nat → Nat → Int32) → Prop}
theorem Wp.mono (h : Wp X M pc lv st m Q) (hq : ∀ r m', Q r m' → Q' r m') : Wp X M pc lv st m Q' := by
  obtain ⟨n, r, m', h1, h2⟩ := h
  exact ⟨n, r, m', h1, hq _ _ h2⟩
theorem Call.mono {as : List Value} (h : Call X M as m Q) (hq : ∀ r m', Q r m' → Q' r m') : Call X M as m Q' := Wp.mono h hq
theorem CallI.mono {as : List Value} {P P' : Int32 → (Nat → Nat → Int32) → Prop} (h : CallI X M as m P) (hq : ∀ r m', P r m' → P' r m') : CallI X M as m P' := Wp.mono h (fun _ _ ⟨v, e, q⟩ => ⟨v, e, hq _ _ q⟩)
theorem CallV.mono {as : List Value} {P P' : (Nat → Nat → Int32) → Prop} (h : CallV X M as m P) (hq : ∀ m', P m' → P' m') : CallV X M as m P' := Wp.mono h (fun _ _ ⟨e, q⟩ => ⟨e, hq _ q⟩)
/-- steps over locals and stack alone, k of them -/
def a_p1 (M : a_Mth) (pc : Nat) (lv : a_LV) (st : List Value) : Option (Nat × a_LV × List Value) := match a_at M pc with
  | some (i, ln) => match Nat.beq ln (a_len i ln) with
    | true => match i with
      | .ireturn => none
      | .return_ => none
      | .areturn => none
      | .invokevirtual _ => none
      | .invokestatic _ => none
      | .invokespecial _ => none
      | i => a_pure i pc lv st
    | false => none
  | none => none
def a_pk (M : a_Mth) : Nat → Nat → a_LV → List Value → Option (Nat × a_LV × List Value)
  | 0, pc, lv, st => some (pc, lv, st)
  | k + 1, pc, lv, st => match a_p1 M pc lv st with
    | some (pc', lv', st') => a_pk M k pc' lv' st'
    | none => none
theorem Wp.p1 {pc' : Nat} {lv' : a_LV} {st' : List Value} (h : a_p1 M pc lv st = some (pc', lv', st')) (k : Wp X M pc' lv' st' m Q) : Wp X M pc lv st m Q := by
  obtain ⟨n, r, m', h1, h2⟩ := k
  refine ⟨n + 1, r, m', ?_, h2⟩
  rw [arun_s]
  unfold abody
  unfold a_p1 at h
  cases ha : a_at M pc with
  | none => rw [ha] at h; cases h
  | some p =>
    obtain ⟨i, ln⟩ := p
    rw [ha] at h
    simp only at h ⊢
    cases hb : Nat.beq ln (a_len i ln) with
    | false => rw [hb] at h; cases h
    | true =>
      rw [hb] at h
      cases i <;> first | (cases h; done) | (simp only at h; simp only [a_call, h]; exact h1)
theorem Wp.pk (k : Nat) : ∀ {pc pc' : Nat} {lv lv' : a_LV} {st st' : List Value}, a_pk M k pc lv st = some (pc', lv', st') → Wp X M pc' lv' st' m Q → Wp X M pc lv st m Q := by
  induction k with
  | zero => intro pc pc' lv lv' st st' h w; cases h; exact w
  | succ k ih =>
    intro pc pc' lv lv' st st' h w
    simp only [a_pk] at h
    split at h
    · next e => exact Wp.p1 e (ih h w)
    · cases h
def a_nr (i : Instr) : Bool := match i with
  | .ireturn => false
  | .return_ => false
  | .areturn => false
  | _ => true
/-- a step over cells -/
theorem Wp.hp {i : Instr} {ln pc' : Nat} {lv' : a_LV} {st' : List Value} {m1 : Nat → Nat → Int32} (h0 : a_at M pc = some (i, ln)) (hl : Nat.beq ln (a_len i ln) = true) (hc : a_call M i st a_SH = none) (hp : a_pure i pc lv st = none) (hr : a_nr i = true) (h : a_heap X M i pc lv st (a_SH, m) = some (pc', lv', st', (a_SH, m1))) (k : Wp X M pc' lv' st' m1 Q) : Wp X M pc lv st m Q := by
  obtain ⟨n, r, m', h1, h2⟩ := k
  refine ⟨n + 1, r, m', ?_, h2⟩
  rw [arun_s]
  unfold abody
  rw [h0]
  simp only [hl]
  cases i <;> first | (cases hr; done) | (simp only [hc, hp, h]; exact h1)
theorem a_fst (m : Nat → Nat → Int32) : ((a_SH, m) : a_H).1 = a_SH := rfl
theorem Wp.getI {idx c ci k : Nat} {z : Nat × (Nat × Nat) × String} {fs : List (Option (Option Nat))} {r : List Value} (h0 : a_at M pc = some (.getfield idx, 3)) (hf : a_look (a_fldT (a_cn M)) idx = some (ci, k, z)) (hS : a_SH[c]? = some (.inl (ci, fs))) (hk : fs[k]? = some none) (w : Wp X M (pc + 3) lv (.int (m c k) :: r) m Q) : Wp X M pc lv (.ref c :: r) m Q := by
  refine Wp.hp h0 rfl rfl (by cases r <;> rfl) rfl ?_ w
  simp only [a_heap, a_getf, hf, hS, Nat.beq_refl, hk]
theorem Wp.getR {idx c ci k q : Nat} {z : Nat × (Nat × Nat) × String} {fs : List (Option (Option Nat))} {r : List Value} (h0 : a_at M pc = some (.getfield idx, 3)) (hf : a_look (a_fldT (a_cn M)) idx = some (ci, k, z)) (hS : a_SH[c]? = some (.inl (ci, fs))) (hk : fs[k]? = some (some (some q))) (w : Wp X M (pc + 3) lv (.ref q :: r) m Q) : Wp X M pc lv (.ref c :: r) m Q := by
  refine Wp.hp h0 rfl rfl (by cases r <;> rfl) rfl ?_ w
  simp only [a_heap, a_getf, hf, hS, Nat.beq_refl, hk]
theorem Wp.putI {idx c ci k : Nat} {v : Int32} {z : Nat × (Nat × Nat) × String} {fs : List (Option (Option Nat))} {r : List Value} (h0 : a_at M pc = some (.putfield idx, 3)) (hf : a_look (a_fldT (a_cn M)) idx = some (ci, k, z)) (hS : a_SH[c]? = some (.inl (ci, fs))) (hk : fs[k]? = some none) (ht : a_fit (a_ty ci k) v = true) (w : Wp X M (pc + 3) lv r (a_up m c k v) Q) : Wp X M pc lv (.int v :: .ref c :: r) m Q := by
  refine Wp.hp h0 rfl rfl rfl rfl ?_ w
  simp only [a_heap, a_putf, hf, hS, Nat.beq_refl, hk, ht]
theorem a_in_of {i : Int32} {n : Nat} (h : vp_in i n) : a_in i n = true := by
  simp only [a_in, Bool.not_eq_true', Bool.or_eq_false_iff, decide_eq_false_iff_not]
  exact ⟨fun q => h (Or.inl q), fun q => h (Or.inr q)⟩
theorem Wp.ald {tc c n : Nat} {i : Instr} {x : Int32} {r : List Value} (ht : (tc = 0 ∧ i = .iaload) ∨ (tc = 1 ∧ i = .baload) ∨ (tc = 2 ∧ i = .caload)) (h0 : a_at M pc = some (i, 1)) (hS : a_SH[c]? = some (.inr (tc, n))) (w : vp_in x n ∧ Wp X M (pc + 1) lv (.int (m c x.toNatClampNeg) :: r) m Q) : Wp X M pc lv (.int x :: .ref c :: r) m Q := by
  rcases ht with ⟨rfl, rfl⟩ | ⟨rfl, rfl⟩ | ⟨rfl, rfl⟩
  all_goals
    refine Wp.hp h0 rfl rfl rfl rfl ?_ w.2
    simp [a_heap, a_ald, hS, a_in_of w.1]
theorem Wp.iald {c n : Nat} {x : Int32} {r : List Value} (h0 : a_at M pc = some (.iaload, 1)) (hS : a_SH[c]? = some (.inr (0, n))) (w : vp_in x n ∧ Wp X M (pc + 1) lv (.int (m c x.toNatClampNeg) :: r) m Q) : Wp X M pc lv (.int x :: .ref c :: r) m Q := Wp.ald (Or.inl ⟨rfl, rfl⟩) h0 hS w
theorem Wp.bald {c n : Nat} {x : Int32} {r : List Value} (h0 : a_at M pc = some (.baload, 1)) (hS : a_SH[c]? = some (.inr (1, n))) (w : vp_in x n ∧ Wp X M (pc + 1) lv (.int (m c x.toNatClampNeg) :: r) m Q) : Wp X M pc lv (.int x :: .ref c :: r) m Q := Wp.ald (Or.inr (Or.inl ⟨rfl, rfl⟩)) h0 hS w
theorem Wp.cald {c n : Nat} {x : Int32} {r : List Value} (h0 : a_at M pc = some (.caload, 1)) (hS : a_SH[c]? = some (.inr (2, n))) (w : vp_in x n ∧ Wp X M (pc + 1) lv (.int (m c x.toNatClampNeg) :: r) m Q) : Wp X M pc lv (.int x :: .ref c :: r) m Q := Wp.ald (Or.inr (Or.inr ⟨rfl, rfl⟩)) h0 hS w
theorem Wp.iast {c n : Nat} {v x : Int32} {r : List Value} (h0 : a_at M pc = some (.iastore, 1)) (hS : a_SH[c]? = some (.inr (0, n))) (w : vp_in x n ∧ Wp X M (pc + 1) lv r (a_up m c x.toNatClampNeg v) Q) : Wp X M pc lv (.int v :: .int x :: .ref c :: r) m Q := by
  refine Wp.hp h0 rfl rfl rfl rfl ?_ w.2
  simp [a_heap, a_ast, hS, a_in_of w.1]
theorem Wp.bast {c n : Nat} {v x : Int32} {r : List Value} (h0 : a_at M pc = some (.bastore, 1)) (hS : a_SH[c]? = some (.inr (1, n))) (w : vp_in x n ∧ Wp X M (pc + 1) lv r (a_up m c x.toNatClampNeg (vp_nar .boolean v)) Q) : Wp X M pc lv (.int v :: .int x :: .ref c :: r) m Q := by
  refine Wp.hp h0 rfl rfl rfl rfl ?_ w.2
  simp [a_heap, a_ast, hS, a_in_of w.1]
theorem Wp.cast {c n : Nat} {v x : Int32} {r : List Value} (h0 : a_at M pc = some (.castore, 1)) (hS : a_SH[c]? = some (.inr (2, n))) (w : vp_in x n ∧ Wp X M (pc + 1) lv r (a_up m c x.toNatClampNeg (vp_nar .char v)) Q) : Wp X M pc lv (.int v :: .int x :: .ref c :: r) m Q := by
  refine Wp.hp h0 rfl rfl rfl rfl ?_ w.2
  simp [a_heap, a_ast, hS, a_in_of w.1]
theorem Wp.if1 {cd : ClassFile.Cond} {off : Int} {x : Int32} {r : List Value} {t : Nat} (h0 : a_at M pc = some (.ifCond cd off, 3)) (ht : a_tgt pc off = some t) (w : (a_c1 cd x = true → Wp X M t lv r m Q) ∧ (a_c1 cd x = false → Wp X M (pc + 3) lv r m Q)) : Wp X M pc lv (.int x :: r) m Q := by
  have h1 : a_p1 M pc lv (.int x :: r) = some (if a_c1 cd x then t else pc + 3, lv, r) := by
    simp only [a_p1, h0, a_len, Nat.beq_refl, a_pure, ht]
  refine Wp.p1 h1 ?_
  cases hc : a_c1 cd x with
  | true => exact w.1 hc
  | false => exact w.2 hc
theorem Wp.if2 {cd : ClassFile.Cond} {off : Int} {x y : Int32} {r : List Value} {t : Nat} (h0 : a_at M pc = some (.if_icmp cd off, 3)) (ht : a_tgt pc off = some t) (w : (a_c2 cd x y = true → Wp X M t lv r m Q) ∧ (a_c2 cd x y = false → Wp X M (pc + 3) lv r m Q)) : Wp X M pc lv (.int y :: .int x :: r) m Q := by
  have h1 : a_p1 M pc lv (.int y :: .int x :: r) = some (if a_c2 cd x y then t else pc + 3, lv, r) := by
    simp only [a_p1, h0, a_len, Nat.beq_refl, a_pure, ht]
  refine Wp.p1 h1 ?_
  cases hc : a_c2 cd x y with
  | true => exact w.1 hc
  | false => exact w.2 hc
theorem Wp.iret {v : Int32} {ty : FieldType} (h0 : a_at M pc = some (.ireturn, 1)) (hr : a_rt M = some ty) (w : a_fit ty v = true ∧ Q (some (.int v)) m) : Wp X M pc lv [.int v] m Q := by
  refine ⟨1, some (.int v), m, ?_, w.2⟩
  rw [arun_s]
  simp only [abody, h0, a_len, Nat.beq_refl, hr, w.1]
theorem Wp.vret (h0 : a_at M pc = some (.return_, 1)) (hr : a_rt M = none) (w : Q none m) : Wp X M pc lv [] m Q := by
  refine ⟨1, none, m, ?_, w⟩
  rw [arun_s]
  simp only [abody, h0, a_len, Nat.beq_refl, hr]
theorem Wp.aret {q : Nat} {nm : String} (h0 : a_at M pc = some (.areturn, 1)) (hr : a_rt M = some (.object nm)) (w : Q (some (.ref q)) m) : Wp X M pc lv [.ref q] m Q := by
  refine ⟨1, some (.ref q), m, ?_, w⟩
  rw [arun_s]
  simp only [abody, h0, a_len, Nat.beq_refl, hr]
/-- a call -/
theorem Wp.call {i : Instr} {M' : a_Mth} {as rest : List Value} (h0 : a_at M pc = some (i, 3)) (hl : a_len i 3 = 3) (hc : a_call M i st a_SH = some (M', as, rest)) (w : Call X M' as m (fun r m1 => Wp X M (pc + 3) lv (r.toList ++ rest) m1 Q)) : Wp X M pc lv st m Q := by
  obtain ⟨n1, r1, m1, h1, n2, r2, m2, h2, hq⟩ := w
  refine ⟨max n1 n2 + 1, r2, m2, ?_, hq⟩
  have h1' := arun_mono (Nat.le_max_left n1 n2) h1
  have h2' := arun_mono (Nat.le_max_right n1 n2) h2
  rw [arun_s]
  unfold abody
  rw [h0]
  simp only [hl, Nat.beq_refl]
  have hst : a_stay (a_SH, m) (a_SH, m1) lv rest = true := by simp [a_stay]
  have hc2 : a_call M i st ((a_SH, m) : a_H).1 = some (M', as, rest) := hc
  cases i <;> first | (cases hc; done) | (simp only [hc2, h1', hst, h2'])
theorem Wp.callI {i : Instr} {M' : a_Mth} {as rest : List Value} (h0 : a_at M pc = some (i, 3)) (hl : a_len i 3 = 3) (hc : a_call M i st a_SH = some (M', as, rest)) (w : CallI X M' as m (fun v m1 => Wp X M (pc + 3) lv (.int v :: rest) m1 Q)) : Wp X M pc lv st m Q :=
  Wp.call h0 hl hc (Call.mono w (fun r m1 ⟨v, e, q⟩ => by subst e; exact q))
theorem Wp.callR {i : Instr} {M' : a_Mth} {as rest : List Value} (h0 : a_at M pc = some (i, 3)) (hl : a_len i 3 = 3) (hc : a_call M i st a_SH = some (M', as, rest)) (w : CallR X M' as m (fun v m1 => Wp X M (pc + 3) lv (.ref v :: rest) m1 Q)) : Wp X M pc lv st m Q :=
  Wp.call h0 hl hc (Call.mono w (fun r m1 ⟨v, e, q⟩ => by subst e; exact q))
theorem Wp.callV {i : Instr} {M' : a_Mth} {as rest : List Value} (h0 : a_at M pc = some (i, 3)) (hl : a_len i 3 = 3) (hc : a_call M i st a_SH = some (M', as, rest)) (w : CallV X M' as m (fun m1 => Wp X M (pc + 3) lv rest m1 Q)) : Wp X M pc lv st m Q :=
  Wp.call h0 hl hc (Call.mono w (fun r m1 ⟨e, q⟩ => by subst e; exact q))
/-- which class the receiver is of -/
theorem a_callV_at {idx k na ci : Nat} {z : List (Nat × Nat) × String} {M' : a_Mth} {c : Nat} {rest : List Value} {fs : List (Option (Option Nat))} (ht : a_look (a_calT (a_cn M)) idx = some (0, k, na, z)) (hM : a_M k = some M') (hd : st.drop na = .ref c :: rest) (hS : a_SH[c]? = some (.inl (ci, fs))) (hr : (Nat.beq ci (a_cn M') && a_rooms M M' (.ref c :: (st.take na).reverse) rest) = true) : a_call M (.invokevirtual idx) st a_SH = some (M', .ref c :: (st.take na).reverse, rest) := by
  simp only [a_call, ht, hM, hd, hS, hr]
end WP
end
section
/-! a local that is not set may as well hold an int -/
def a_lle (lv lv' : a_LV) : Prop := lv.length = lv'.length ∧ ∀ i, a_get lv' i = a_get lv i ∨ (a_get lv i = none ∧ ∃ v : Int32, a_get lv' i = some (.int v))
theorem a_lle.get {lv lv' : a_LV} (h : a_lle lv lv') {i : Nat} {v : Value} (e : a_get lv i = some v) : a_get lv' i = some v := by
  rcases h.2 i with q | ⟨q, -⟩
  · rw [q, e]
  · rw [q] at e; cases e
theorem a_lle.iv {lv lv' : a_LV} (h : a_lle lv lv') {i : Nat} {v : Int32} (e : a_iv lv i = some v) : a_iv lv' i = some v := by
  unfold a_iv; rw [h.get (a_iv_get e)]
theorem a_lle.lgv {lv lv' : a_LV} (h : a_lle lv lv') {i : Nat} {v : Int64} (e : a_lgv lv i = some v) : a_lgv lv' i = some v := by
  unfold a_lgv; rw [h.get (a_lgv_get e)]
theorem a_lle.rv {lv lv' : a_LV} (h : a_lle lv lv') {i : Nat} {v : Nat} (e : a_rv lv i = some v) : a_rv lv' i = some v := by
  unfold a_rv; rw [h.get (a_rv_get e)]
theorem a_get_set2 (lv : a_LV) (i j : Nat) (v : Value) (hi : i < lv.length) : a_get (lv.set i (some v)) j = if i = j then some v else a_get lv j := by
  unfold a_get
  rw [List.getElem?_set]
  by_cases e : i = j
  · subst e
    rw [if_pos rfl, if_pos hi, if_pos rfl]
  · rw [if_neg e, if_neg e]
theorem a_lle.put {lv lv' lv1 : a_LV} (h : a_lle lv lv') {i : Nat} {v : Value} (e : a_put lv i v = some lv1) : ∃ lv2, a_put lv' i v = some lv2 ∧ a_lle lv1 lv2 := by
  have key : i < lv.length → a_lle (lv.set i (some v)) (lv'.set i (some v)) := by
    intro hi
    refine ⟨by rw [List.length_set, List.length_set]; exact h.1, fun j => ?_⟩
    rw [a_get_set2 _ _ _ _ hi, a_get_set2 _ _ _ _ (by rw [← h.1]; exact hi)]
    by_cases ej : i = j
    · rw [if_pos ej, if_pos ej]; exact Or.inl rfl
    · rw [if_neg ej, if_neg ej]; exact h.2 j
  unfold a_put at e ⊢
  rw [← h.1]
  split at e
  · cases e
  · next hb =>
    have hi : i < lv.length := by simpa using hb
    cases i with
    | zero =>
      cases e
      exact ⟨_, rfl, key hi⟩
    | succ k =>
      simp only at e ⊢
      cases hl : a_isL (a_get lv k) with
      | true => rw [hl] at e; cases e
      | false =>
        rw [hl] at e
        cases e
        have hl2 : a_isL (a_get lv' k) = false := by
          rcases h.2 k with q | ⟨-, w, q⟩
          · rw [q]; exact hl
          · rw [q]; rfl
        rw [hl2]
        exact ⟨_, rfl, key hi⟩
theorem a_lle.pure {lv lv' lv1 : a_LV} (h : a_lle lv lv') {i : Instr} {pc pc' : Nat} {st st' : List Value} (e : a_pure i pc lv st = some (pc', lv1, st')) : ∃ lv2, a_pure i pc lv' st = some (pc', lv2, st') ∧ a_lle lv1 lv2 := by
  unfold a_pure at e ⊢
  split at e
  · cases e; exact ⟨_, rfl, h⟩
  · cases e; exact ⟨_, rfl, h⟩
  · cases e; exact ⟨_, rfl, h⟩
  · cases e; exact ⟨_, rfl, h⟩
  · split at e
    · next x ex => cases e; rw [h.iv ex]; exact ⟨_, rfl, h⟩
    · cases e
  · split at e
    · next x ex => cases e; rw [h.iv ex]; exact ⟨_, rfl, h⟩
    · cases e
  · split at e
    · next x ex => cases e; rw [h.lgv ex]; exact ⟨_, rfl, h⟩
    · cases e
  · split at e
    · next x ex => cases e; rw [h.lgv ex]; exact ⟨_, rfl, h⟩
    · cases e
  · split at e
    · next x ex => cases e; rw [h.rv ex]; exact ⟨_, rfl, h⟩
    · cases e
  · split at e
    · next x ex => cases e; rw [h.rv ex]; exact ⟨_, rfl, h⟩
    · cases e
  · split at e
    · split at e
      · next ep =>
        cases e
        obtain ⟨lv2, e2, h2⟩ := h.put ep
        simp only [e2]
        exact ⟨_, rfl, h2⟩
      · cases e
    · cases e
  · split at e
    · split at e
      · next ep =>
        cases e
        obtain ⟨lv2, e2, h2⟩ := h.put ep
        simp only [e2]
        exact ⟨_, rfl, h2⟩
      · cases e
    · cases e
  · split at e
    · split at e
      · next ep =>
        cases e
        obtain ⟨lv2, e2, h2⟩ := h.put ep
        simp only [e2]
        exact ⟨_, rfl, h2⟩
      · cases e
    · cases e
  · split at e
    · next x ex =>
      split at e
      · next ep =>
        cases e
        obtain ⟨lv2, e2, h2⟩ := h.put ep
        simp only [h.iv ex, e2]
        exact ⟨_, rfl, h2⟩
      · cases e
    · cases e
  all_goals
    repeat' split at e
    all_goals first | (cases e; done) | (cases e; exact ⟨_, rfl, h⟩) | (cases e; refine ⟨_, ?_, h⟩; simp_all; done) | (cases e; refine ⟨_, ?_, h⟩; simp_all; intro hc; omega)
def a_isH (i : Instr) : Bool := match i with
  | .getfield _ => true
  | .putfield _ => true
  | .iaload => true
  | .baload => true
  | .caload => true
  | .iastore => true
  | .bastore => true
  | .castore => true
  | .arraylength => true
  | .newarray _ => true
  | .new _ => true
  | .ldc _ => true
  | .ldc_w _ => true
  | .ldc2_w _ => true
  | .invokespecial _ => true
  | .invokestatic _ => true
  | .invokevirtual _ => true
  | _ => false
theorem a_isH_of {X : a_X} {M : a_Mth} {i : Instr} {pc : Nat} {lv : a_LV} {st : List Value} {h : a_H} {x : Nat × a_LV × List Value × a_H} (e : a_heap X M i pc lv st h = some x) : a_isH i = true := by
  unfold a_heap at e
  split at e <;> first | rfl | cases e
theorem a_isH_pure {i : Instr} (h : a_isH i = true) (pc : Nat) (lv : a_LV) (st : List Value) : a_pure i pc lv st = none := by
  have h1 : ∀ x y, a_bin i x y = none := by intro x y; cases i <;> first | (cases h; done) | rfl
  have h2 : ∀ x y, a_binL i x y = none := by intro x y; cases i <;> first | (cases h; done) | rfl
  have h3 : (match st with
    | .int y :: .int x :: r => match a_bin i x y with
      | some z => some (pc + 1, lv, .int z :: r)
      | none => none
    | .long y :: .long x :: r => match a_binL i x y with
      | some z => some (pc + 1, lv, z :: r)
      | none => none
    | _ => none : Option (Nat × a_LV × List Value)) = none := by
    split
    · rw [h1]
    · rw [h2]
    · rfl
  cases i <;> first | (cases h; done) | exact h3
theorem a_lle.wf {lv lv' : a_LV} (h : a_lle lv lv') {S : List a_C} {st : List Value} (e : a_wf S lv st = true) : a_wf S lv' st = true := by
  simp only [a_wf, Bool.and_eq_true] at e ⊢
  refine ⟨⟨e.1.1, ?_⟩, e.2⟩
  refine List.all_eq_true.mpr (fun o ho => ?_)
  obtain ⟨i, hi⟩ := List.getElem?_of_mem ho
  cases o with
  | none => rfl
  | some v =>
    have hg : a_get lv' i = some v := by unfold a_get; rw [hi]
    rcases h.2 i with q | ⟨-, w, q⟩
    · rw [hg] at q
      have hm : some v ∈ lv := by
        have q2 : a_get lv i = some v := q.symm
        unfold a_get at q2
        cases e3 : lv[i]? with
        | none => rw [e3] at q2; cases q2
        | some o =>
          rw [e3] at q2
          simp only at q2
          rw [← q2]
          exact List.mem_of_getElem? e3
      exact List.all_eq_true.mp e.1.2 _ hm
    · rw [hg] at q
      cases q
      rfl
theorem a_lle.heap {X : a_X} {M : a_Mth} {lv lv' lv1 : a_LV} (h : a_lle lv lv') {i : Instr} {pc pc' : Nat} {st st' : List Value} {hh hh' : a_H} (e : a_heap X M i pc lv st hh = some (pc', lv1, st', hh')) : lv1 = lv ∧ a_heap X M i pc lv' st hh = some (pc', lv', st', hh') := by
  unfold a_heap at e ⊢
  split at e
  · unfold a_getf at e ⊢
    repeat' split at e
    all_goals first | (cases e; done) | (cases e; simp_all; done) | (cases e; exact ⟨rfl, rfl⟩)
  · unfold a_putf at e ⊢
    repeat' split at e
    all_goals first | (cases e; done) | (cases e; simp_all; done) | (cases e; exact ⟨rfl, rfl⟩)
  · unfold a_ald at e ⊢
    repeat' split at e
    all_goals first | (cases e; done) | (cases e; simp_all; done) | (cases e; exact ⟨rfl, rfl⟩)
  · unfold a_ald at e ⊢
    repeat' split at e
    all_goals first | (cases e; done) | (cases e; simp_all; done) | (cases e; exact ⟨rfl, rfl⟩)
  · unfold a_ald at e ⊢
    repeat' split at e
    all_goals first | (cases e; done) | (cases e; simp_all; done) | (cases e; exact ⟨rfl, rfl⟩)
  · unfold a_ast at e ⊢
    repeat' split at e
    all_goals first | (cases e; done) | (cases e; simp_all; done) | (cases e; exact ⟨rfl, rfl⟩)
  · unfold a_ast at e ⊢
    repeat' split at e
    all_goals first | (cases e; done) | (cases e; simp_all; done) | (cases e; exact ⟨rfl, rfl⟩)
  · unfold a_ast at e ⊢
    repeat' split at e
    all_goals first | (cases e; done) | (cases e; simp_all; done) | (cases e; exact ⟨rfl, rfl⟩)
  · repeat' split at e
    all_goals first | (cases e; done) | (cases e; simp_all; done) | (cases e; exact ⟨rfl, rfl⟩)
  · split at e
    · next n r tc et =>
      split at e
      · next ew =>
        cases e
        simp only [Bool.and_eq_true] at ew
        have e2 : (decide (¬ n < (0 : Int32)) && Nat.ble n.toNatClampNeg 100000 && a_wf hh.1 lv' r) = true := by simp only [Bool.and_eq_true]; exact ⟨ew.1, h.wf ew.2⟩
        refine ⟨rfl, ?_⟩
        simp only [e2]
      · cases e
    · cases e
  · split at e
    · split at e
      · next ew =>
        cases e
        simp only [Bool.and_eq_true] at ew
        have := h.wf ew.2
        refine ⟨rfl, ?_⟩
        simp [ew.1, this]
      · cases e
    · cases e
  · repeat' split at e
    all_goals first | (cases e; done) | (cases e; simp_all; done) | (cases e; exact ⟨rfl, rfl⟩)
  · repeat' split at e
    all_goals first | (cases e; done) | (cases e; simp_all; done) | (cases e; exact ⟨rfl, rfl⟩)
  · repeat' split at e
    all_goals first | (cases e; done) | (cases e; simp_all; done) | (cases e; exact ⟨rfl, rfl⟩)
  · repeat' split at e
    all_goals first | (cases e; done) | (cases e; simp_all; done) | (cases e; exact ⟨rfl, rfl⟩)
  · split at e
    · unfold a_acopy at e ⊢
      repeat' split at e
      all_goals first | (cases e; done) | (cases e; simp_all; done) | (cases e; exact ⟨rfl, rfl⟩)
    · cases e
  · split at e
    · unfold a_str at e ⊢
      repeat' split at e
      all_goals first | (cases e; done) | (cases e; simp_all; done) | (cases e; exact ⟨rfl, rfl⟩)
    · cases e
  · cases e
theorem arun_forget {X : a_X} : ∀ (n : Nat) (M : a_Mth) (pc : Nat) (lv lv' : a_LV) (st : List Value) (h : a_H) (R : Option Value × a_H), a_lle lv lv' → arun X n M pc lv st h = some R → arun X n M pc lv' st h = some R := by
  intro n
  induction n with
  | zero => intro M pc lv lv' st h R _ hr; cases hr
  | succ n ih =>
    intro M pc lv lv' st h R0 hle hr0
    rw [arun_s] at hr0 ⊢
    unfold abody at hr0 ⊢
    cases ha : a_at M pc with
    | none => rw [ha] at hr0; cases hr0
    | some p =>
      obtain ⟨i, ln⟩ := p
      rw [ha] at hr0
      simp only at hr0 ⊢
      cases hb : Nat.beq ln (a_len i ln) with
      | false => rw [hb] at hr0; cases hr0
      | true =>
        rw [hb] at hr0
        simp only at hr0 ⊢
        have go : ∀ {R : Option Value × a_H}, (match a_call M i st h.1 with
          | some (M', as, rest) => match arun X n M' 0 (a_loc M' as) [] h with
            | none => none
            | some (r, h') => match a_stay h h' lv rest with
              | true => arun X n M (pc + 3) lv (r.toList ++ rest) h'
              | false => none
          | none => match a_pure i pc lv st with
            | some (pc', lv', st') => arun X n M pc' lv' st' h
            | none => match a_heap X M i pc lv st h with
              | some (pc', lv', st', h') => arun X n M pc' lv' st' h'
              | none => none) = some R → (match a_call M i st h.1 with
          | some (M', as, rest) => match arun X n M' 0 (a_loc M' as) [] h with
            | none => none
            | some (r, h') => match a_stay h h' lv' rest with
              | true => arun X n M (pc + 3) lv' (r.toList ++ rest) h'
              | false => none
          | none => match a_pure i pc lv' st with
            | some (pc', lv', st') => arun X n M pc' lv' st' h
            | none => match a_heap X M i pc lv' st h with
              | some (pc', lv', st', h') => arun X n M pc' lv' st' h'
              | none => none) = some R := by
          intro R hr
          cases hc : a_call M i st h.1 with
          | some q =>
            obtain ⟨M', as, rest⟩ := q
            rw [hc] at hr
            simp only at hr ⊢
            cases hf : arun X n M' 0 (a_loc M' as) [] h with
            | none => rw [hf] at hr; cases hr
            | some q =>
              obtain ⟨r, h'⟩ := q
              rw [hf] at hr
              simp only at hr ⊢
              cases hs : a_stay h h' lv rest with
              | false => rw [hs] at hr; cases hr
              | true =>
                rw [hs] at hr
                have hs2 : a_stay h h' lv' rest = true := by
                  unfold a_stay at hs ⊢
                  simp only [Bool.or_eq_true] at hs ⊢
                  exact hs.imp id hle.wf
                rw [hs2]
                exact ih _ _ _ _ _ _ _ hle hr
          | none =>
            rw [hc] at hr
            simp only at hr ⊢
            cases hp : a_pure i pc lv st with
            | some q =>
              obtain ⟨pc', lv1, st'⟩ := q
              rw [hp] at hr
              obtain ⟨lv2, e2, h2⟩ := hle.pure hp
              rw [e2]
              exact ih _ _ _ _ _ _ _ h2 hr
            | none =>
              rw [hp] at hr
              simp only at hr ⊢
              cases hh : a_heap X M i pc lv st h with
              | none => rw [hh] at hr; cases hr
              | some q =>
                obtain ⟨pc', lv1, st', h'⟩ := q
                rw [hh] at hr
                obtain ⟨e1, e2⟩ := hle.heap hh
                rw [a_isH_pure (a_isH_of hh), e2]
                subst e1
                exact ih _ _ _ _ _ _ _ hle hr
        cases i <;> first | exact hr0 | exact go hr0
theorem Wp.fgt {X : a_X} {M : a_Mth} {pc : Nat} {lv lv' : a_LV} {st : List Value} {m : Nat → Nat → Int32} {Q : Option Value → (Nat → Nat → Int32) → Prop} (hle : a_lle lv lv') (h : Wp X M pc lv st m Q) : Wp X M pc lv' st m Q := by
  obtain ⟨n, r, m', h1, h2⟩ := h
  exact ⟨n, r, m', arun_forget n _ _ _ _ _ _ _ hle h1, h2⟩
/-- a test of it, place by place -/
def a_lleb : a_LV → a_LV → Prop
  | [], [] => True
  | a :: r, b :: s => (b = a ∨ (a = none ∧ ∃ v : Int32, b = some (.int v))) ∧ a_lleb r s
  | _, _ => False
theorem a_lle.of : ∀ {lv lv' : a_LV}, a_lleb lv lv' → a_lle lv lv'
  | [], [], _ => ⟨rfl, fun i => Or.inl rfl⟩
  | a :: r, b :: s, h => by
    obtain ⟨h1, h2⟩ := a_lle.of h.2
    refine ⟨by simp [h1], fun i => ?_⟩
    cases i with
    | zero => exact h.1
    | succ i => rw [a_get_cons1, a_get_cons1]; exact h2 i
theorem a_lleb_e {a : Option Value} {r s : a_LV} (h : a_lleb r s) : a_lleb (a :: r) (a :: s) := ⟨Or.inl rfl, h⟩
theorem a_lleb_i {v : Int32} {r s : a_LV} (h : a_lleb r s) : a_lleb (none :: r) (some (.int v) :: s) := ⟨Or.inr ⟨rfl, v, rfl⟩, h⟩
end
section
/-! the cells, and more rows -/
theorem sh0 : a_SH[0]? = some (.inl (8, [some (some 1), some (some 7), some (some 13), some (some 15), some (some 23), some (some 32), some (some 41), some (some 47), some (some 50), some (some 71)])) := rfl
theorem sh1 : a_SH[1]? = some (.inl (5, [none, none, none, none, none, none, none, some (some 2), some (some 3), some (some 4), some (some 5), some (some 6)])) := rfl
theorem sh2 : a_SH[2]? = some (.inr (0, 16)) := rfl
theorem sh3 : a_SH[3]? = some (.inr (0, 8)) := rfl
theorem sh4 : a_SH[4]? = some (.inr (0, 12)) := rfl
theorem sh5 : a_SH[5]? = some (.inr (0, 12)) := rfl
theorem sh6 : a_SH[6]? = some (.inr (0, 12)) := rfl
theorem sh7 : a_SH[7]? = some (.inl (5, [none, none, none, none, none, none, none, some (some 8), some (some 9), some (some 10), some (some 11), some (some 12)])) := rfl
theorem sh8 : a_SH[8]? = some (.inr (0, 16)) := rfl
theorem sh9 : a_SH[9]? = some (.inr (0, 8)) := rfl
theorem sh10 : a_SH[10]? = some (.inr (0, 12)) := rfl
theorem sh11 : a_SH[11]? = some (.inr (0, 12)) := rfl
theorem sh12 : a_SH[12]? = some (.inr (0, 12)) := rfl
theorem sh13 : a_SH[13]? = some (.inl (6, [some (some 14), none, none, none, none, none, none, none])) := rfl
theorem sh14 : a_SH[14]? = some (.inr (2, 300)) := rfl
theorem sh15 : a_SH[15]? = some (.inl (0, [some (some 1), none, none, none, some (some 16), some (some 17), some (some 18), some (some 19), some (some 20), none, some (some 21), some (some 22)])) := rfl
theorem sh16 : a_SH[16]? = some (.inr (0, 20)) := rfl
theorem sh17 : a_SH[17]? = some (.inr (0, 20)) := rfl
theorem sh18 : a_SH[18]? = some (.inr (0, 20)) := rfl
theorem sh19 : a_SH[19]? = some (.inr (0, 20)) := rfl
theorem sh20 : a_SH[20]? = some (.inr (0, 6)) := rfl
theorem sh21 : a_SH[21]? = some (.inr (0, 128)) := rfl
theorem sh22 : a_SH[22]? = some (.inr (0, 128)) := rfl
theorem sh23 : a_SH[23]? = some (.inl (1, [some (some 24), none])) := rfl
theorem sh24 : a_SH[24]? = some (.inl (0, [some (some 1), none, none, none, some (some 25), some (some 26), some (some 27), some (some 28), some (some 29), none, some (some 30), some (some 31)])) := rfl
theorem sh25 : a_SH[25]? = some (.inr (0, 20)) := rfl
theorem sh26 : a_SH[26]? = some (.inr (0, 20)) := rfl
theorem sh27 : a_SH[27]? = some (.inr (0, 20)) := rfl
theorem sh28 : a_SH[28]? = some (.inr (0, 20)) := rfl
theorem sh29 : a_SH[29]? = some (.inr (0, 6)) := rfl
theorem sh30 : a_SH[30]? = some (.inr (0, 128)) := rfl
theorem sh31 : a_SH[31]? = some (.inr (0, 128)) := rfl
theorem sh32 : a_SH[32]? = some (.inl (1, [some (some 33), none])) := rfl
theorem sh33 : a_SH[33]? = some (.inl (0, [some (some 1), none, none, none, some (some 34), some (some 35), some (some 36), some (some 37), some (some 38), none, some (some 39), some (some 40)])) := rfl
theorem sh34 : a_SH[34]? = some (.inr (0, 20)) := rfl
theorem sh35 : a_SH[35]? = some (.inr (0, 20)) := rfl
theorem sh36 : a_SH[36]? = some (.inr (0, 20)) := rfl
theorem sh37 : a_SH[37]? = some (.inr (0, 20)) := rfl
theorem sh38 : a_SH[38]? = some (.inr (0, 6)) := rfl
theorem sh39 : a_SH[39]? = some (.inr (0, 128)) := rfl
theorem sh40 : a_SH[40]? = some (.inr (0, 128)) := rfl
theorem sh41 : a_SH[41]? = some (.inl (7, [some (some 1), some (some 42), some (some 43), some (some 44), some (some 45), some (some 46), none, none])) := rfl
theorem sh42 : a_SH[42]? = some (.inr (0, 128)) := rfl
theorem sh43 : a_SH[43]? = some (.inr (0, 20)) := rfl
theorem sh44 : a_SH[44]? = some (.inr (0, 20)) := rfl
theorem sh45 : a_SH[45]? = some (.inr (0, 20)) := rfl
theorem sh46 : a_SH[46]? = some (.inr (0, 20)) := rfl
theorem sh47 : a_SH[47]? = some (.inl (2, [some (some 1), some (some 48), some (some 49), none])) := rfl
theorem sh48 : a_SH[48]? = some (.inr (0, 20)) := rfl
theorem sh49 : a_SH[49]? = some (.inr (0, 128)) := rfl
theorem sh50 : a_SH[50]? = some (.inl (4, [some (some 1), some (some 51), some (some 59), some (some 65), none, none, none, none, none, none, none])) := rfl
theorem sh51 : a_SH[51]? = some (.inl (0, [some (some 1), none, none, none, some (some 52), some (some 53), some (some 54), some (some 55), some (some 56), none, some (some 57), some (some 58)])) := rfl
theorem sh52 : a_SH[52]? = some (.inr (0, 20)) := rfl
theorem sh53 : a_SH[53]? = some (.inr (0, 20)) := rfl
theorem sh54 : a_SH[54]? = some (.inr (0, 20)) := rfl
theorem sh55 : a_SH[55]? = some (.inr (0, 20)) := rfl
theorem sh56 : a_SH[56]? = some (.inr (0, 6)) := rfl
theorem sh57 : a_SH[57]? = some (.inr (0, 128)) := rfl
theorem sh58 : a_SH[58]? = some (.inr (0, 128)) := rfl
theorem sh59 : a_SH[59]? = some (.inl (7, [some (some 1), some (some 60), some (some 61), some (some 62), some (some 63), some (some 64), none, none])) := rfl
theorem sh60 : a_SH[60]? = some (.inr (0, 128)) := rfl
theorem sh61 : a_SH[61]? = some (.inr (0, 20)) := rfl
theorem sh62 : a_SH[62]? = some (.inr (0, 20)) := rfl
theorem sh63 : a_SH[63]? = some (.inr (0, 20)) := rfl
theorem sh64 : a_SH[64]? = some (.inr (0, 20)) := rfl
theorem sh65 : a_SH[65]? = some (.inl (7, [some (some 1), some (some 66), some (some 67), some (some 68), some (some 69), some (some 70), none, none])) := rfl
theorem sh66 : a_SH[66]? = some (.inr (0, 128)) := rfl
theorem sh67 : a_SH[67]? = some (.inr (0, 20)) := rfl
theorem sh68 : a_SH[68]? = some (.inr (0, 20)) := rfl
theorem sh69 : a_SH[69]? = some (.inr (0, 20)) := rfl
theorem sh70 : a_SH[70]? = some (.inr (0, 20)) := rfl
theorem sh71 : a_SH[71]? = some (.inl (3, [some (some 1), none, some (some 72), some (some 73), some (some 74), some (some 75), some (some 76)])) := rfl
theorem sh72 : a_SH[72]? = some (.inr (0, 128)) := rfl
theorem sh73 : a_SH[73]? = some (.inr (0, 128)) := rfl
theorem sh74 : a_SH[74]? = some (.inr (0, 10)) := rfl
theorem sh75 : a_SH[75]? = some (.inr (0, 10)) := rfl
theorem sh76 : a_SH[76]? = some (.inr (0, 1024)) := rfl
theorem sh77 : a_SH[77]? = some (.inl (9, [some (some 78), some (some 79), some (some 80), some (some 81), some (some 82), none, some (some 83), some (some 84), some (some 85), none, none, none, some (some 86), none, none, none, none, none, none, none, none, none, some (some 87), some (some 88), some (some 89), some (some 90), none, some (some 91), some (some 92), some (some 93), some (some 94), some (some 95), some (some 96), none, none, none])) := rfl
theorem sh78 : a_SH[78]? = some (.inr (0, 800)) := rfl
theorem sh79 : a_SH[79]? = some (.inr (1, 2)) := rfl
theorem sh80 : a_SH[80]? = some (.inr (0, 10)) := rfl
theorem sh81 : a_SH[81]? = some (.inr (0, 32)) := rfl
theorem sh82 : a_SH[82]? = some (.inr (1, 256)) := rfl
theorem sh83 : a_SH[83]? = some (.inr (0, 24)) := rfl
theorem sh84 : a_SH[84]? = some (.inr (0, 24)) := rfl
theorem sh85 : a_SH[85]? = some (.inr (0, 24)) := rfl
theorem sh86 : a_SH[86]? = some (.inr (0, 300)) := rfl
theorem sh87 : a_SH[87]? = some (.inr (0, 20)) := rfl
theorem sh88 : a_SH[88]? = some (.inr (0, 20)) := rfl
theorem sh89 : a_SH[89]? = some (.inr (0, 20)) := rfl
theorem sh90 : a_SH[90]? = some (.inr (0, 20)) := rfl
theorem sh91 : a_SH[91]? = some (.inr (0, 10)) := rfl
theorem sh92 : a_SH[92]? = some (.inr (0, 10)) := rfl
theorem sh93 : a_SH[93]? = some (.inr (0, 10)) := rfl
theorem sh94 : a_SH[94]? = some (.inr (0, 128)) := rfl
theorem sh95 : a_SH[95]? = some (.inr (0, 10)) := rfl
theorem sh96 : a_SH[96]? = some (.inr (0, 1024)) := rfl
/-- a Bills object at b, a Sight at s -/
def sBills (b : Nat) : Prop := a_SH[b]? = some (.inl (0, [some (some 1), none, none, none, some (some (b + 1)), some (some (b + 2)), some (some (b + 3)), some (some (b + 4)), some (some (b + 5)), none, some (some (b + 6)), some (some (b + 7))])) ∧ a_SH[b + 1]? = some (.inr (0, 20)) ∧ a_SH[b + 2]? = some (.inr (0, 20)) ∧ a_SH[b + 3]? = some (.inr (0, 20)) ∧ a_SH[b + 4]? = some (.inr (0, 20)) ∧ a_SH[b + 5]? = some (.inr (0, 6)) ∧ a_SH[b + 6]? = some (.inr (0, 128)) ∧ a_SH[b + 7]? = some (.inr (0, 128))
def sSight (s : Nat) : Prop := a_SH[s]? = some (.inl (7, [some (some 1), some (some (s + 1)), some (some (s + 2)), some (some (s + 3)), some (some (s + 4)), some (some (s + 5)), none, none])) ∧ a_SH[s + 1]? = some (.inr (0, 128)) ∧ a_SH[s + 2]? = some (.inr (0, 20)) ∧ a_SH[s + 3]? = some (.inr (0, 20)) ∧ a_SH[s + 4]? = some (.inr (0, 20)) ∧ a_SH[s + 5]? = some (.inr (0, 20))
theorem sB15 : sBills 15 := ⟨rfl, rfl, rfl, rfl, rfl, rfl, rfl, rfl⟩
theorem sB24 : sBills 24 := ⟨rfl, rfl, rfl, rfl, rfl, rfl, rfl, rfl⟩
theorem sB33 : sBills 33 := ⟨rfl, rfl, rfl, rfl, rfl, rfl, rfl, rfl⟩
theorem sB51 : sBills 51 := ⟨rfl, rfl, rfl, rfl, rfl, rfl, rfl, rfl⟩
theorem sS41 : sSight 41 := ⟨rfl, rfl, rfl, rfl, rfl, rfl⟩
theorem sS59 : sSight 59 := ⟨rfl, rfl, rfl, rfl, rfl, rfl⟩
theorem sS65 : sSight 65 := ⟨rfl, rfl, rfl, rfl, rfl, rfl⟩
def a_ush (x y : Int32) : Int32 := (x.toUInt32 >>> (y.toUInt32 &&& Int32.toUInt32 31)).toInt32
def a_rem (x y : Int32) : Int32 := x - x / y * y
def a_remL (x y : Int64) : Int64 := x - x / y * y
def a_ushL (x : Int64) (y : Int32) : Int64 := (x.toUInt64 >>> (y.toInt64.toUInt64 &&& Int64.toUInt64 63)).toInt64
section WP2
variable {X : a_X} {M : a_Mth} {pc : Nat} {lv : a_LV} {st : List Value} {m : Nat → Nat → Int32} {Q Q' : Option Value → (Nat → Nat → Int32) → Prop}
theorem Wp.loc {lv lv' : a_LV} (e : lv = lv') (h : Wp X M pc lv' st m Q) : Wp X M pc lv st m Q := e ▸ h
theorem Wp.if_eq {off : Int} {x : Int32} {r : List Value} {t : Nat} (h0 : a_at M pc = some (.ifCond .eq off, 3)) (ht : a_tgt pc off = some t) (w : (x = 0 → Wp X M t lv r m Q) ∧ (¬ x = 0 → Wp X M (pc + 3) lv r m Q)) : Wp X M pc lv (.int x :: r) m Q := Wp.if1 h0 ht ⟨fun e => w.1 (of_decide_eq_true e), fun e => w.2 (of_decide_eq_false e)⟩
theorem Wp.if_ne {off : Int} {x : Int32} {r : List Value} {t : Nat} (h0 : a_at M pc = some (.ifCond .ne off, 3)) (ht : a_tgt pc off = some t) (w : (¬ x = 0 → Wp X M t lv r m Q) ∧ (x = 0 → Wp X M (pc + 3) lv r m Q)) : Wp X M pc lv (.int x :: r) m Q := Wp.if1 h0 ht ⟨fun e => w.1 (of_decide_eq_true e), fun e => w.2 (Decidable.not_not.mp (of_decide_eq_false e))⟩
theorem Wp.if_lt {off : Int} {x : Int32} {r : List Value} {t : Nat} (h0 : a_at M pc = some (.ifCond .lt off, 3)) (ht : a_tgt pc off = some t) (w : (x < 0 → Wp X M t lv r m Q) ∧ (¬ x < 0 → Wp X M (pc + 3) lv r m Q)) : Wp X M pc lv (.int x :: r) m Q := Wp.if1 h0 ht ⟨fun e => w.1 (of_decide_eq_true e), fun e => w.2 (of_decide_eq_false e)⟩
theorem Wp.if_ge {off : Int} {x : Int32} {r : List Value} {t : Nat} (h0 : a_at M pc = some (.ifCond .ge off, 3)) (ht : a_tgt pc off = some t) (w : (0 ≤ x → Wp X M t lv r m Q) ∧ (¬ 0 ≤ x → Wp X M (pc + 3) lv r m Q)) : Wp X M pc lv (.int x :: r) m Q := Wp.if1 h0 ht ⟨fun e => w.1 (of_decide_eq_true e), fun e => w.2 (of_decide_eq_false e)⟩
theorem Wp.if_gt {off : Int} {x : Int32} {r : List Value} {t : Nat} (h0 : a_at M pc = some (.ifCond .gt off, 3)) (ht : a_tgt pc off = some t) (w : (0 < x → Wp X M t lv r m Q) ∧ (¬ 0 < x → Wp X M (pc + 3) lv r m Q)) : Wp X M pc lv (.int x :: r) m Q := Wp.if1 h0 ht ⟨fun e => w.1 (of_decide_eq_true e), fun e => w.2 (of_decide_eq_false e)⟩
theorem Wp.if_le {off : Int} {x : Int32} {r : List Value} {t : Nat} (h0 : a_at M pc = some (.ifCond .le off, 3)) (ht : a_tgt pc off = some t) (w : (x ≤ 0 → Wp X M t lv r m Q) ∧ (¬ x ≤ 0 → Wp X M (pc + 3) lv r m Q)) : Wp X M pc lv (.int x :: r) m Q := Wp.if1 h0 ht ⟨fun e => w.1 (of_decide_eq_true e), fun e => w.2 (of_decide_eq_false e)⟩
theorem Wp.icmp_eq {off : Int} {x y : Int32} {r : List Value} {t : Nat} (h0 : a_at M pc = some (.if_icmp .eq off, 3)) (ht : a_tgt pc off = some t) (w : (x = y → Wp X M t lv r m Q) ∧ (¬ x = y → Wp X M (pc + 3) lv r m Q)) : Wp X M pc lv (.int y :: .int x :: r) m Q := Wp.if2 h0 ht ⟨fun e => w.1 (of_decide_eq_true e), fun e => w.2 (of_decide_eq_false e)⟩
theorem Wp.icmp_ne {off : Int} {x y : Int32} {r : List Value} {t : Nat} (h0 : a_at M pc = some (.if_icmp .ne off, 3)) (ht : a_tgt pc off = some t) (w : (¬ x = y → Wp X M t lv r m Q) ∧ (x = y → Wp X M (pc + 3) lv r m Q)) : Wp X M pc lv (.int y :: .int x :: r) m Q := Wp.if2 h0 ht ⟨fun e => w.1 (of_decide_eq_true e), fun e => w.2 (Decidable.not_not.mp (of_decide_eq_false e))⟩
theorem Wp.icmp_lt {off : Int} {x y : Int32} {r : List Value} {t : Nat} (h0 : a_at M pc = some (.if_icmp .lt off, 3)) (ht : a_tgt pc off = some t) (w : (x < y → Wp X M t lv r m Q) ∧ (¬ x < y → Wp X M (pc + 3) lv r m Q)) : Wp X M pc lv (.int y :: .int x :: r) m Q := Wp.if2 h0 ht ⟨fun e => w.1 (of_decide_eq_true e), fun e => w.2 (of_decide_eq_false e)⟩
theorem Wp.icmp_ge {off : Int} {x y : Int32} {r : List Value} {t : Nat} (h0 : a_at M pc = some (.if_icmp .ge off, 3)) (ht : a_tgt pc off = some t) (w : (y ≤ x → Wp X M t lv r m Q) ∧ (¬ y ≤ x → Wp X M (pc + 3) lv r m Q)) : Wp X M pc lv (.int y :: .int x :: r) m Q := Wp.if2 h0 ht ⟨fun e => w.1 (of_decide_eq_true e), fun e => w.2 (of_decide_eq_false e)⟩
theorem Wp.icmp_gt {off : Int} {x y : Int32} {r : List Value} {t : Nat} (h0 : a_at M pc = some (.if_icmp .gt off, 3)) (ht : a_tgt pc off = some t) (w : (y < x → Wp X M t lv r m Q) ∧ (¬ y < x → Wp X M (pc + 3) lv r m Q)) : Wp X M pc lv (.int y :: .int x :: r) m Q := Wp.if2 h0 ht ⟨fun e => w.1 (of_decide_eq_true e), fun e => w.2 (of_decide_eq_false e)⟩
theorem Wp.icmp_le {off : Int} {x y : Int32} {r : List Value} {t : Nat} (h0 : a_at M pc = some (.if_icmp .le off, 3)) (ht : a_tgt pc off = some t) (w : (x ≤ y → Wp X M t lv r m Q) ∧ (¬ x ≤ y → Wp X M (pc + 3) lv r m Q)) : Wp X M pc lv (.int y :: .int x :: r) m Q := Wp.if2 h0 ht ⟨fun e => w.1 (of_decide_eq_true e), fun e => w.2 (of_decide_eq_false e)⟩
theorem Wp.tsw {d lo hi : Int} {offs : Array Int} {ln : Nat} {x : Int32} {r : List Value} (h0 : a_at M pc = some (.tableswitch d lo hi offs, ln)) (w1 : (x.toInt < lo ∨ hi < x.toInt) → ∃ t, a_tgt pc d = some t ∧ Wp X M t lv r m Q) (w2 : ∀ j : Int, lo ≤ j → j ≤ hi → x.toInt = j → ∃ off t, offs[(j - lo).toNat]? = some off ∧ a_tgt pc off = some t ∧ Wp X M t lv r m Q) : Wp X M pc lv (.int x :: r) m Q := by
  by_cases hc : x.toInt < lo ∨ hi < x.toInt
  · obtain ⟨t, ht, w⟩ := w1 hc
    have h1 : a_p1 M pc lv (.int x :: r) = some (t, lv, r) := by
      simp only [a_p1, h0, a_len, Nat.beq_refl, a_pure, if_pos hc, ht]
    exact Wp.p1 h1 w
  · obtain ⟨off, t, ho, ht, w⟩ := w2 x.toInt (by omega) (by omega) rfl
    have h1 : a_p1 M pc lv (.int x :: r) = some (t, lv, r) := by
      simp only [a_p1, h0, a_len, Nat.beq_refl, a_pure, if_neg hc, ho, ht]
    exact Wp.p1 h1 w
theorem Wp.alen {c t n : Nat} {v : Int32} {r : List Value} (h0 : a_at M pc = some (.arraylength, 1)) (hS : a_SH[c]? = some (.inr (t, n))) (ht : Nat.blt t 3 = true) (hv : Int32.ofNat n = v) (w : Wp X M (pc + 1) lv (.int v :: r) m Q) : Wp X M pc lv (.ref c :: r) m Q := by
  subst hv
  refine Wp.hp h0 rfl rfl (by cases r <;> rfl) rfl ?_ w
  simp only [a_heap, hS, ht]
theorem Wp.ldc {idx : Nat} {v : Int32} {z : Nat × Nat} {st : List Value} (h0 : a_at M pc = some (.ldc idx, 2)) (hf : a_look (a_ldcT (a_cn M)) idx = some (.inl v, z)) (w : Wp X M (pc + 2) lv (.int v :: st) m Q) : Wp X M pc lv st m Q := by
  refine Wp.hp h0 rfl rfl (a_isH_pure rfl _ _ _) rfl ?_ w
  simp only [a_heap, hf]
theorem Wp.ldc_w {idx : Nat} {v : Int32} {z : Nat × Nat} {st : List Value} (h0 : a_at M pc = some (.ldc_w idx, 3)) (hf : a_look (a_ldcT (a_cn M)) idx = some (.inl v, z)) (w : Wp X M (pc + 3) lv (.int v :: st) m Q) : Wp X M pc lv st m Q := by
  refine Wp.hp h0 rfl rfl (a_isH_pure rfl _ _ _) rfl ?_ w
  simp only [a_heap, hf]
theorem Wp.ldcS {idx k : Nat} {tx : String} {z : Nat × Nat} {st : List Value} (h0 : a_at M pc = some (.ldc idx, 2)) (hf : a_look (a_ldcT (a_cn M)) idx = some (.inr (k, tx), z)) (w : Wp X M (pc + 2) lv (.ref (1000 + k) :: st) m Q) : Wp X M pc lv st m Q := by
  refine Wp.hp h0 rfl rfl (a_isH_pure rfl _ _ _) rfl ?_ w
  simp only [a_heap, hf]
theorem Wp.ldc2 {idx : Nat} {v : Int64} {z : Nat × Nat} {st : List Value} (h0 : a_at M pc = some (.ldc2_w idx, 3)) (hf : a_look (a_ldc2T (a_cn M)) idx = some (v, z)) (w : Wp X M (pc + 3) lv (.long v :: st) m Q) : Wp X M pc lv st m Q := by
  refine Wp.hp h0 rfl rfl (a_isH_pure rfl _ _ _) rfl ?_ w
  simp only [a_heap, hf]
/-- n of a row onto another one's front -/
theorem Wp.acopy {idx c d n0 n1 : Nat} {n : Nat} {z : Nat × Nat × List (Nat × Nat) × String} {r : List Value} {v : Int32} (h0 : a_at M pc = some (.invokestatic idx, 3)) (hk : a_look (a_calT (a_cn M)) idx = some (7, z)) (hc : a_SH[c]? = some (.inr (0, n0))) (hd : a_SH[d]? = some (.inr (0, n1))) (hb : (decide (v = nI n) && decide (n < 2 ^ 31) && Nat.ble n n0 && Nat.ble n n1 && Nat.ble (a_wt r) 8 && Nat.ble 1 (a_fr M) && Nat.ble 26 (a_lo M)) = true) (w : Wp X M (pc + 3) lv r (a_row m d (va_cpy (m c) (m d) 0 0 n)) Q) : Wp X M pc lv (.int v :: .int 0 :: .ref d :: .int 0 :: .ref c :: r) m Q := by
  simp only [Bool.and_eq_true, decide_eq_true_eq, Nat.ble_eq] at hb
  obtain ⟨⟨⟨⟨⟨⟨rfl, g0⟩, g1⟩, g2⟩, g3⟩, g4⟩, g5⟩ := hb
  have hcal : a_call M (.invokestatic idx) (.int (nI n) :: .int 0 :: .ref d :: .int 0 :: .ref c :: r) a_SH = none := by
    obtain ⟨z1, z2, z3⟩ := z
    simp only [a_call, hk]
    rfl
  refine Wp.hp h0 rfl hcal rfl rfl ?_ w
  have e0 : (0 : Int32).toNatClampNeg = 0 := rfl
  simp only [a_heap, hk, a_acopy, hc, hd, nI_clamp g0, e0, Nat.zero_add]
  have e1 : (decide (¬ (0 : Int32) < 0) && decide (¬ (0 : Int32) < 0) && decide (¬ nI n < 0) && Nat.ble n n0 && Nat.ble n n1 && Nat.ble (a_wt r) 8 && Nat.ble 1 (a_fr M) && Nat.ble 26 (a_lo M)) = true := by
    simp only [Bool.and_eq_true, decide_eq_true_eq, Nat.ble_eq]
    exact ⟨⟨⟨⟨⟨⟨⟨by decide, by decide⟩, nI_pos g0⟩, g1⟩, g2⟩, g3⟩, g4⟩, g5⟩
  simp only [e1]
theorem Wp.slen {idx k : Nat} {z : Nat × Nat × List (Nat × Nat) × String} {r : List Value} (h0 : a_at M pc = some (.invokevirtual idx, 3)) (hk : a_look (a_calT (a_cn M)) idx = some (8, z)) (hb : (Nat.ble 1000 (1000 + k) && Nat.blt (1000 + k) 1007 && Nat.ble (a_wt r) 8 && Nat.ble 3 (a_fr M) && Nat.ble 60 (a_lo M)) = true) (w : Wp X M (pc + 3) lv (.int (nI (a_sl.getD k 0)) :: r) m Q) : Wp X M pc lv (.ref (1000 + k) :: r) m Q := by
  have hcal : a_call M (.invokevirtual idx) (.ref (1000 + k) :: r) a_SH = none := by
    obtain ⟨z1, z2, z3⟩ := z
    simp only [a_call, hk]
  refine Wp.hp h0 rfl hcal (a_isH_pure rfl _ _ _) rfl ?_ w
  simp only [a_heap, hk, a_str, hb, Nat.add_sub_cancel_left]
theorem Wp.scha {idx k : Nat} {z : Nat × Nat × List (Nat × Nat) × String} {r : List Value} {i : Int32} (h0 : a_at M pc = some (.invokevirtual idx, 3)) (hk : a_look (a_calT (a_cn M)) idx = some (9, z)) (hb : (Nat.ble 1000 (1000 + k) && Nat.blt (1000 + k) 1007 && Nat.ble (a_wt r) 8 && Nat.ble 5 (a_fr M) && Nat.ble 121 (a_lo M)) = true) (w : vp_in i (a_sl.getD k 0) ∧ Wp X M (pc + 3) lv (.int ((a_sc.getD k []).getD i.toNatClampNeg 0) :: r) m Q) : Wp X M pc lv (.int i :: .ref (1000 + k) :: r) m Q := by
  have hcal : a_call M (.invokevirtual idx) (.int i :: .ref (1000 + k) :: r) a_SH = none := by
    obtain ⟨z1, z2, z3⟩ := z
    simp only [a_call, hk]
  refine Wp.hp h0 rfl hcal (a_isH_pure rfl _ _ _) rfl ?_ w.2
  simp only [Bool.and_eq_true] at hb
  obtain ⟨⟨⟨⟨g1, g2⟩, g3⟩, g4⟩, g5⟩ := hb
  have e1 := a_in_of w.1
  simp only [a_heap, hk, a_str, Nat.add_sub_cancel_left, g1, g2, g3, g4, g5, e1, Bool.and_self]
theorem Wp.putN {idx c ci k : Nat} {v : Int32} {z : Nat × (Nat × Nat) × String} {fs : List (Option (Option Nat))} {r : List Value} (h0 : a_at M pc = some (.putfield idx, 3)) (hf : a_look (a_fldT (a_cn M)) idx = some (ci, k, z)) (hS : a_SH[c]? = some (.inl (ci, fs))) (hk : fs[k]? = some none) (ht : a_fit (a_ty ci k) v = true) (w : ∀ m1, m1 = a_up m c k v → Wp X M (pc + 3) lv r m1 Q) : Wp X M pc lv (.int v :: .ref c :: r) m Q := Wp.putI h0 hf hS hk ht (w _ rfl)
theorem Wp.iastN {c n : Nat} {v x : Int32} {r : List Value} (h0 : a_at M pc = some (.iastore, 1)) (hS : a_SH[c]? = some (.inr (0, n))) (w1 : vp_in x n) (w : ∀ m1, m1 = a_up m c x.toNatClampNeg v → Wp X M (pc + 1) lv r m1 Q) : Wp X M pc lv (.int v :: .int x :: .ref c :: r) m Q := Wp.iast h0 hS ⟨w1, w _ rfl⟩
theorem Wp.bastN {c n : Nat} {v x : Int32} {r : List Value} (h0 : a_at M pc = some (.bastore, 1)) (hS : a_SH[c]? = some (.inr (1, n))) (w1 : vp_in x n) (w : ∀ m1, m1 = a_up m c x.toNatClampNeg (vp_nar .boolean v) → Wp X M (pc + 1) lv r m1 Q) : Wp X M pc lv (.int v :: .int x :: .ref c :: r) m Q := Wp.bast h0 hS ⟨w1, w _ rfl⟩
theorem Wp.castN {c n : Nat} {v x : Int32} {r : List Value} (h0 : a_at M pc = some (.castore, 1)) (hS : a_SH[c]? = some (.inr (2, n))) (w1 : vp_in x n) (w : ∀ m1, m1 = a_up m c x.toNatClampNeg (vp_nar .char v) → Wp X M (pc + 1) lv r m1 Q) : Wp X M pc lv (.int v :: .int x :: .ref c :: r) m Q := Wp.cast h0 hS ⟨w1, w _ rfl⟩
theorem Wp.acopyN {idx c d n0 n1 : Nat} {n : Nat} {z : Nat × Nat × List (Nat × Nat) × String} {r : List Value} {v : Int32} (h0 : a_at M pc = some (.invokestatic idx, 3)) (hk : a_look (a_calT (a_cn M)) idx = some (7, z)) (hc : a_SH[c]? = some (.inr (0, n0))) (hd : a_SH[d]? = some (.inr (0, n1))) (hb : (decide (v = nI n) && decide (n < 2 ^ 31) && Nat.ble n n0 && Nat.ble n n1 && Nat.ble (a_wt r) 8 && Nat.ble 1 (a_fr M) && Nat.ble 26 (a_lo M)) = true) (w : ∀ m1, m1 = a_row m d (va_cpy (m c) (m d) 0 0 n) → Wp X M (pc + 3) lv r m1 Q) : Wp X M pc lv (.int v :: .int 0 :: .ref d :: .int 0 :: .ref c :: r) m Q := Wp.acopy h0 hk hc hd hb (w _ rfl)
end WP2
end
section
theorem eX5_copyFrom_0 {X : a_X} {m : Nat → Nat → Int32} {Q : Option Value → (Nat → Nat → Int32) → Prop} (h : ∀ m1, m1 = (a_up m 1 0 (m 7 0)) → ∀ m2, m2 = (a_up m1 1 1 (m1 7 1)) → ∀ m3, m3 = (a_up m2 1 2 (m2 7 2)) → ∀ m4, m4 = (a_up m3 1 3 (m3 7 3)) → ∀ m5, m5 = (a_up m4 1 4 (m4 7 4)) → ∀ m6, m6 = (a_up m5 1 5 (m5 7 5)) → ∀ m7, m7 = (a_up m6 1 6 (m6 7 6)) → ∀ m8, m8 = (a_row m7 2 (va_cpy (m7 8) (m7 2) 0 0 16)) → ∀ m9, m9 = (a_row m8 3 (va_cpy (m8 9) (m8 3) 0 0 8)) → ∀ m10, m10 = (a_row m9 4 (va_cpy (m9 10) (m9 4) 0 0 12)) → ∀ m11, m11 = (a_row m10 5 (va_cpy (m10 11) (m10 5) 0 0 12)) → ∀ m12, m12 = (a_row m11 6 (va_cpy (m11 12) (m11 6) 0 0 12)) → Q none m12) : Call X mX5_copyFrom [.ref 1, .ref 7] m Q := by
  unfold Call
  refine Wp.loc (lv' := [some (.ref 1), some (.ref 7)]) rfl ?_
  refine Wp.pk 2 (pc' := 2) (lv' := [some (.ref 1), some (.ref 7)]) (st' := [.ref 7, .ref 1]) rfl ?_
  refine Wp.getI rfl rfl sh7 rfl ?_
  refine Wp.putN rfl rfl sh1 rfl rfl (fun m1 hm => ?_)
  replace h := h _ hm
  refine Wp.pk 2 (pc' := 10) (lv' := [some (.ref 1), some (.ref 7)]) (st' := [.ref 7, .ref 1]) rfl ?_
  refine Wp.getI rfl rfl sh7 rfl ?_
  refine Wp.putN rfl rfl sh1 rfl rfl (fun m2 hm => ?_)
  replace h := h _ hm
  refine Wp.pk 2 (pc' := 18) (lv' := [some (.ref 1), some (.ref 7)]) (st' := [.ref 7, .ref 1]) rfl ?_
  refine Wp.getI rfl rfl sh7 rfl ?_
  refine Wp.putN rfl rfl sh1 rfl rfl (fun m3 hm => ?_)
  replace h := h _ hm
  refine Wp.pk 2 (pc' := 26) (lv' := [some (.ref 1), some (.ref 7)]) (st' := [.ref 7, .ref 1]) rfl ?_
  refine Wp.getI rfl rfl sh7 rfl ?_
  refine Wp.putN rfl rfl sh1 rfl rfl (fun m4 hm => ?_)
  replace h := h _ hm
  refine Wp.pk 2 (pc' := 34) (lv' := [some (.ref 1), some (.ref 7)]) (st' := [.ref 7, .ref 1]) rfl ?_
  refine Wp.getI rfl rfl sh7 rfl ?_
  refine Wp.putN rfl rfl sh1 rfl rfl (fun m5 hm => ?_)
  replace h := h _ hm
  refine Wp.pk 2 (pc' := 42) (lv' := [some (.ref 1), some (.ref 7)]) (st' := [.ref 7, .ref 1]) rfl ?_
  refine Wp.getI rfl rfl sh7 rfl ?_
  refine Wp.putN rfl rfl sh1 rfl rfl (fun m6 hm => ?_)
  replace h := h _ hm
  refine Wp.pk 2 (pc' := 50) (lv' := [some (.ref 1), some (.ref 7)]) (st' := [.ref 7, .ref 1]) rfl ?_
  refine Wp.getI rfl rfl sh7 rfl ?_
  refine Wp.putN rfl rfl sh1 rfl rfl (fun m7 hm => ?_)
  replace h := h _ hm
  refine Wp.pk 1 (pc' := 57) (lv' := [some (.ref 1), some (.ref 7)]) (st' := [.ref 7]) rfl ?_
  refine Wp.getR rfl rfl sh7 rfl ?_
  refine Wp.pk 2 (pc' := 62) (lv' := [some (.ref 1), some (.ref 7)]) (st' := [.ref 1, .int 0, .ref 8]) rfl ?_
  refine Wp.getR rfl rfl sh1 rfl ?_
  refine Wp.pk 2 (pc' := 68) (lv' := [some (.ref 1), some (.ref 7)]) (st' := [.int 16, .int 0, .ref 2, .int 0, .ref 8]) rfl ?_
  refine Wp.acopyN (n := 16) rfl rfl sh8 sh2 rfl (fun m8 hm => ?_)
  replace h := h _ hm
  refine Wp.pk 1 (pc' := 72) (lv' := [some (.ref 1), some (.ref 7)]) (st' := [.ref 7]) rfl ?_
  refine Wp.getR rfl rfl sh7 rfl ?_
  refine Wp.pk 2 (pc' := 77) (lv' := [some (.ref 1), some (.ref 7)]) (st' := [.ref 1, .int 0, .ref 9]) rfl ?_
  refine Wp.getR rfl rfl sh1 rfl ?_
  refine Wp.pk 2 (pc' := 83) (lv' := [some (.ref 1), some (.ref 7)]) (st' := [.int 8, .int 0, .ref 3, .int 0, .ref 9]) rfl ?_
  refine Wp.acopyN (n := 8) rfl rfl sh9 sh3 rfl (fun m9 hm => ?_)
  replace h := h _ hm
  refine Wp.pk 1 (pc' := 87) (lv' := [some (.ref 1), some (.ref 7)]) (st' := [.ref 7]) rfl ?_
  refine Wp.getR rfl rfl sh7 rfl ?_
  refine Wp.pk 2 (pc' := 92) (lv' := [some (.ref 1), some (.ref 7)]) (st' := [.ref 1, .int 0, .ref 10]) rfl ?_
  refine Wp.getR rfl rfl sh1 rfl ?_
  refine Wp.pk 2 (pc' := 98) (lv' := [some (.ref 1), some (.ref 7)]) (st' := [.int 12, .int 0, .ref 4, .int 0, .ref 10]) rfl ?_
  refine Wp.acopyN (n := 12) rfl rfl sh10 sh4 rfl (fun m10 hm => ?_)
  replace h := h _ hm
  refine Wp.pk 1 (pc' := 102) (lv' := [some (.ref 1), some (.ref 7)]) (st' := [.ref 7]) rfl ?_
  refine Wp.getR rfl rfl sh7 rfl ?_
  refine Wp.pk 2 (pc' := 107) (lv' := [some (.ref 1), some (.ref 7)]) (st' := [.ref 1, .int 0, .ref 11]) rfl ?_
  refine Wp.getR rfl rfl sh1 rfl ?_
  refine Wp.pk 2 (pc' := 113) (lv' := [some (.ref 1), some (.ref 7)]) (st' := [.int 12, .int 0, .ref 5, .int 0, .ref 11]) rfl ?_
  refine Wp.acopyN (n := 12) rfl rfl sh11 sh5 rfl (fun m11 hm => ?_)
  replace h := h _ hm
  refine Wp.pk 1 (pc' := 117) (lv' := [some (.ref 1), some (.ref 7)]) (st' := [.ref 7]) rfl ?_
  refine Wp.getR rfl rfl sh7 rfl ?_
  refine Wp.pk 2 (pc' := 122) (lv' := [some (.ref 1), some (.ref 7)]) (st' := [.ref 1, .int 0, .ref 12]) rfl ?_
  refine Wp.getR rfl rfl sh1 rfl ?_
  refine Wp.pk 2 (pc' := 128) (lv' := [some (.ref 1), some (.ref 7)]) (st' := [.int 12, .int 0, .ref 6, .int 0, .ref 12]) rfl ?_
  refine Wp.acopyN (n := 12) rfl rfl sh12 sh6 rfl (fun m12 hm => ?_)
  replace h := h _ hm
  exact Wp.vret rfl rfl h
theorem eX5_untell_0 {X : a_X} {m : Nat → Nat → Int32} {Q : Option Value → (Nat → Nat → Int32) → Prop} (h : ∀ m1, m1 = (a_up m 7 0 16) → ∀ m2, m2 = (a_up m1 7 1 8) → ∀ m3, m3 = (a_up m2 7 2 3) → ∀ m4, m4 = (a_up m3 7 3 10) → ∀ m5, m5 = (a_up m4 7 4 60) → ∀ m6, m6 = (a_up m5 7 5 0) → ∀ m7, m7 = (a_up m6 7 6 0) → CallV X mJ7_fill_53178 [.ref 8, .int 1] m7 (fun m8 => CallV X mJ7_fill_53178 [.ref 9, .int 0] m8 (fun m9 => Q none m9))) : Call X mX5_untell [.ref 7] m Q := by
  unfold Call
  refine Wp.loc (lv' := [some (.ref 7)]) rfl ?_
  refine Wp.pk 2 (pc' := 3) (lv' := [some (.ref 7)]) (st' := [.int 16, .ref 7]) rfl ?_
  refine Wp.putN rfl rfl sh7 rfl rfl (fun m1 hm => ?_)
  replace h := h _ hm
  refine Wp.pk 2 (pc' := 9) (lv' := [some (.ref 7)]) (st' := [.int 8, .ref 7]) rfl ?_
  refine Wp.putN rfl rfl sh7 rfl rfl (fun m2 hm => ?_)
  replace h := h _ hm
  refine Wp.pk 2 (pc' := 14) (lv' := [some (.ref 7)]) (st' := [.int 3, .ref 7]) rfl ?_
  refine Wp.putN rfl rfl sh7 rfl rfl (fun m3 hm => ?_)
  replace h := h _ hm
  refine Wp.pk 2 (pc' := 20) (lv' := [some (.ref 7)]) (st' := [.int 10, .ref 7]) rfl ?_
  refine Wp.putN rfl rfl sh7 rfl rfl (fun m4 hm => ?_)
  replace h := h _ hm
  refine Wp.pk 2 (pc' := 26) (lv' := [some (.ref 7)]) (st' := [.int 60, .ref 7]) rfl ?_
  refine Wp.putN rfl rfl sh7 rfl rfl (fun m5 hm => ?_)
  replace h := h _ hm
  refine Wp.pk 2 (pc' := 31) (lv' := [some (.ref 7)]) (st' := [.int 0, .ref 7]) rfl ?_
  refine Wp.putN rfl rfl sh7 rfl rfl (fun m6 hm => ?_)
  replace h := h _ hm
  refine Wp.pk 2 (pc' := 36) (lv' := [some (.ref 7)]) (st' := [.int 0, .ref 7]) rfl ?_
  refine Wp.putN rfl rfl sh7 rfl rfl (fun m7 hm => ?_)
  replace h := h _ hm
  refine Wp.pk 1 (pc' := 40) (lv' := [some (.ref 7)]) (st' := [.ref 7]) rfl ?_
  refine Wp.getR rfl rfl sh7 rfl ?_
  refine Wp.pk 1 (pc' := 44) (lv' := [some (.ref 7)]) (st' := [.int 1, .ref 8]) rfl ?_
  refine Wp.callV rfl rfl rfl (CallV.mono h (fun m8 h => ?_))
  refine Wp.pk 1 (pc' := 48) (lv' := [some (.ref 7)]) (st' := [.ref 7]) rfl ?_
  refine Wp.getR rfl rfl sh7 rfl ?_
  refine Wp.pk 1 (pc' := 52) (lv' := [some (.ref 7)]) (st' := [.int 0, .ref 9]) rfl ?_
  refine Wp.callV rfl rfl rfl (CallV.mono h (fun m9 h => ?_))
  exact Wp.vret rfl rfl h
theorem eX5_addStrip_0 {X : a_X} {m : Nat → Nat → Int32} {Q : Option Value → (Nat → Nat → Int32) → Prop} {x1 x2 x3 x4 : Int32} (h : Wp X mX5_addStrip 12 [some (.ref 7), none, some (.int x2), none, some (.int x4), some (.int (((1 <<< (x3 &&& 31)) - 1) <<< (x1 &&& 31))), some (.int x2)] [] m Q) : Call X mX5_addStrip [.ref 7, .int x1, .int x2, .int x3, .int x4] m Q := by
  unfold Call
  refine Wp.loc (lv' := [some (.ref 7), some (.int x1), some (.int x2), some (.int x3), some (.int x4), none, none]) rfl ?_
  refine Wp.pk 10 (pc' := 12) (lv' := [some (.ref 7), some (.int x1), some (.int x2), some (.int x3), some (.int x4), some (.int (((1 <<< (x3 &&& 31)) - 1) <<< (x1 &&& 31))), some (.int x2)]) (st' := []) rfl ?_
  exact Wp.fgt (lv := [some (.ref 7), none, some (.int x2), none, some (.int x4), some (.int (((1 <<< (x3 &&& 31)) - 1) <<< (x1 &&& 31))), some (.int x2)]) (a_lle.of (a_lleb_e (a_lleb_i (a_lleb_e (a_lleb_i (a_lleb_e (a_lleb_e (a_lleb_e trivial)))))))) h
theorem eX5_addStrip_12 {X : a_X} {m : Nat → Nat → Int32} {Q : Option Value → (Nat → Nat → Int32) → Prop} {x2 x4 x5 x6 : Int32} (h : ((x2 + x4) ≤ x6 → ∀ m1, m1 = (a_up m 7 5 ((m 7 5) + 1)) → Q none m1) ∧ (¬ (x2 + x4) ≤ x6 → (8 ≤ x6 → ∀ m2, m2 = (a_up m 7 5 ((m 7 5) + 1)) → Q none m2) ∧ (¬ 8 ≤ x6 → vp_in x6 8 ∧ vp_in x6 8 ∧ ∀ m3, m3 = (a_up m 9 (Int32.toNatClampNeg x6) ((m 9 (Int32.toNatClampNeg x6)) ||| x5)) → Wp X mX5_addStrip 12 [some (.ref 7), none, some (.int x2), none, some (.int x4), some (.int x5), some (.int (x6 + 1))] [] m3 Q))) : Wp X mX5_addStrip 12 [some (.ref 7), none, some (.int x2), none, some (.int x4), some (.int x5), some (.int x6)] [] m Q := by
  refine Wp.pk 4 (pc' := 18) (lv' := [some (.ref 7), none, some (.int x2), none, some (.int x4), some (.int x5), some (.int x6)]) (st' := [.int (x2 + x4), .int x6]) rfl ?_
  refine Wp.icmp_ge rfl rfl ⟨fun hc => ?_, fun hc => ?_⟩
  · replace h := h.1 hc
    refine Wp.pk 2 (pc' := 48) (lv' := [some (.ref 7), none, some (.int x2), none, some (.int x4), some (.int x5), some (.int x6)]) (st' := [.ref 7, .ref 7]) rfl ?_
    refine Wp.getI rfl rfl sh7 rfl ?_
    refine Wp.pk 2 (pc' := 53) (lv' := [some (.ref 7), none, some (.int x2), none, some (.int x4), some (.int x5), some (.int x6)]) (st' := [.int ((m 7 5) + 1), .ref 7]) rfl ?_
    refine Wp.putN rfl rfl sh7 rfl rfl (fun m1 hm => ?_)
    replace h := h _ hm
    exact Wp.vret rfl rfl h
  · replace h := h.2 hc
    refine Wp.pk 2 (pc' := 25) (lv' := [some (.ref 7), none, some (.int x2), none, some (.int x4), some (.int x5), some (.int x6)]) (st' := [.int 8, .int x6]) rfl ?_
    refine Wp.icmp_ge rfl rfl ⟨fun hc => ?_, fun hc => ?_⟩
    · replace h := h.1 hc
      refine Wp.pk 2 (pc' := 48) (lv' := [some (.ref 7), none, some (.int x2), none, some (.int x4), some (.int x5), some (.int x6)]) (st' := [.ref 7, .ref 7]) rfl ?_
      refine Wp.getI rfl rfl sh7 rfl ?_
      refine Wp.pk 2 (pc' := 53) (lv' := [some (.ref 7), none, some (.int x2), none, some (.int x4), some (.int x5), some (.int x6)]) (st' := [.int ((m 7 5) + 1), .ref 7]) rfl ?_
      refine Wp.putN rfl rfl sh7 rfl rfl (fun m2 hm => ?_)
      replace h := h _ hm
      exact Wp.vret rfl rfl h
    · replace h := h.2 hc
      refine Wp.pk 1 (pc' := 29) (lv' := [some (.ref 7), none, some (.int x2), none, some (.int x4), some (.int x5), some (.int x6)]) (st' := [.ref 7]) rfl ?_
      refine Wp.getR rfl rfl sh7 rfl ?_
      refine Wp.pk 2 (pc' := 35) (lv' := [some (.ref 7), none, some (.int x2), none, some (.int x4), some (.int x5), some (.int x6)]) (st' := [.int x6, .ref 9, .int x6, .ref 9]) rfl ?_
      refine Wp.iald rfl sh9 ⟨h.1, ?_⟩
      replace h := h.2
      refine Wp.pk 2 (pc' := 39) (lv' := [some (.ref 7), none, some (.int x2), none, some (.int x4), some (.int x5), some (.int x6)]) (st' := [.int ((m 9 (Int32.toNatClampNeg x6)) ||| x5), .int x6, .ref 9]) rfl ?_
      refine Wp.iastN rfl sh9 h.1 (fun m3 hm => ?_)
      replace h := h.2 _ hm
      refine Wp.pk 2 (pc' := 12) (lv' := [some (.ref 7), none, some (.int x2), none, some (.int x4), some (.int x5), some (.int (x6 + 1))]) (st' := []) rfl ?_
      exact h
theorem eX5_addKind_0 {X : a_X} {m : Nat → Nat → Int32} {Q : Option Value → (Nat → Nat → Int32) → Prop} {x1 x2 x3 : Int32} (h : (12 ≤ (m 7 6) → Q none m) ∧ (¬ 12 ≤ (m 7 6) → vp_in (m 7 6) 12 ∧ ∀ m1, m1 = (a_up m 10 (Int32.toNatClampNeg (m 7 6)) x1) → vp_in (m1 7 6) 12 ∧ ∀ m2, m2 = (a_up m1 11 (Int32.toNatClampNeg (m1 7 6)) x2) → vp_in (m2 7 6) 12 ∧ ∀ m3, m3 = (a_up m2 12 (Int32.toNatClampNeg (m2 7 6)) x3) → ∀ m4, m4 = (a_up m3 7 6 ((m3 7 6) + 1)) → Q none m4)) : Call X mX5_addKind [.ref 7, .int x1, .int x2, .int x3] m Q := by
  unfold Call
  refine Wp.loc (lv' := [some (.ref 7), some (.int x1), some (.int x2), some (.int x3)]) rfl ?_
  refine Wp.pk 1 (pc' := 1) (lv' := [some (.ref 7), some (.int x1), some (.int x2), some (.int x3)]) (st' := [.ref 7]) rfl ?_
  refine Wp.getI rfl rfl sh7 rfl ?_
  refine Wp.pk 1 (pc' := 6) (lv' := [some (.ref 7), some (.int x1), some (.int x2), some (.int x3)]) (st' := [.int 12, .int (m 7 6)]) rfl ?_
  refine Wp.icmp_ge rfl rfl ⟨fun hc => ?_, fun hc => ?_⟩
  · replace h := h.1 hc
    exact Wp.vret rfl rfl h
  · replace h := h.2 hc
    refine Wp.pk 1 (pc' := 10) (lv' := [some (.ref 7), some (.int x1), some (.int x2), some (.int x3)]) (st' := [.ref 7]) rfl ?_
    refine Wp.getR rfl rfl sh7 rfl ?_
    refine Wp.pk 1 (pc' := 14) (lv' := [some (.ref 7), some (.int x1), some (.int x2), some (.int x3)]) (st' := [.ref 7, .ref 10]) rfl ?_
    refine Wp.getI rfl rfl sh7 rfl ?_
    refine Wp.pk 1 (pc' := 18) (lv' := [some (.ref 7), some (.int x1), some (.int x2), some (.int x3)]) (st' := [.int x1, .int (m 7 6), .ref 10]) rfl ?_
    refine Wp.iastN rfl sh10 h.1 (fun m1 hm => ?_)
    replace h := h.2 _ hm
    refine Wp.pk 1 (pc' := 20) (lv' := [some (.ref 7), some (.int x1), some (.int x2), some (.int x3)]) (st' := [.ref 7]) rfl ?_
    refine Wp.getR rfl rfl sh7 rfl ?_
    refine Wp.pk 1 (pc' := 24) (lv' := [some (.ref 7), some (.int x1), some (.int x2), some (.int x3)]) (st' := [.ref 7, .ref 11]) rfl ?_
    refine Wp.getI rfl rfl sh7 rfl ?_
    refine Wp.pk 1 (pc' := 28) (lv' := [some (.ref 7), some (.int x1), some (.int x2), some (.int x3)]) (st' := [.int x2, .int (m1 7 6), .ref 11]) rfl ?_
    refine Wp.iastN rfl sh11 h.1 (fun m2 hm => ?_)
    replace h := h.2 _ hm
    refine Wp.pk 1 (pc' := 30) (lv' := [some (.ref 7), some (.int x1), some (.int x2), some (.int x3)]) (st' := [.ref 7]) rfl ?_
    refine Wp.getR rfl rfl sh7 rfl ?_
    refine Wp.pk 1 (pc' := 34) (lv' := [some (.ref 7), some (.int x1), some (.int x2), some (.int x3)]) (st' := [.ref 7, .ref 12]) rfl ?_
    refine Wp.getI rfl rfl sh7 rfl ?_
    refine Wp.pk 1 (pc' := 38) (lv' := [some (.ref 7), some (.int x1), some (.int x2), some (.int x3)]) (st' := [.int x3, .int (m2 7 6), .ref 12]) rfl ?_
    refine Wp.iastN rfl sh12 h.1 (fun m3 hm => ?_)
    replace h := h.2 _ hm
    refine Wp.pk 2 (pc' := 41) (lv' := [some (.ref 7), some (.int x1), some (.int x2), some (.int x3)]) (st' := [.ref 7, .ref 7]) rfl ?_
    refine Wp.getI rfl rfl sh7 rfl ?_
    refine Wp.pk 2 (pc' := 46) (lv' := [some (.ref 7), some (.int x1), some (.int x2), some (.int x3)]) (st' := [.int ((m3 7 6) + 1), .ref 7]) rfl ?_
    refine Wp.putN rfl rfl sh7 rfl rfl (fun m4 hm => ?_)
    replace h := h _ hm
    exact Wp.vret rfl rfl h
theorem eX5_hasKind_0 {X : a_X} {m : Nat → Nat → Int32} {Q : Option Value → (Nat → Nat → Int32) → Prop} {x1 : Int32} (h : (x1 < 0 → Q (some (.int 0)) m) ∧ (¬ x1 < 0 → ((m 1 6) ≤ x1 → Q (some (.int 0)) m) ∧ (¬ (m 1 6) ≤ x1 → Q (some (.int 1)) m))) : Call X mX5_hasKind [.ref 1, .int x1] m Q := by
  unfold Call
  refine Wp.loc (lv' := [some (.ref 1), some (.int x1)]) rfl ?_
  refine Wp.pk 1 (pc' := 1) (lv' := [some (.ref 1), some (.int x1)]) (st' := [.int x1]) rfl ?_
  refine Wp.if_lt rfl rfl ⟨fun hc => ?_, fun hc => ?_⟩
  · replace h := h.1 hc
    refine Wp.pk 1 (pc' := 17) (lv' := [some (.ref 1), some (.int x1)]) (st' := [.int 0]) rfl ?_
    exact Wp.iret rfl rfl ⟨rfl, h⟩
  · replace h := h.2 hc
    refine Wp.pk 2 (pc' := 6) (lv' := [some (.ref 1), some (.int x1)]) (st' := [.ref 1, .int x1]) rfl ?_
    refine Wp.getI rfl rfl sh1 rfl ?_
    refine Wp.icmp_ge rfl rfl ⟨fun hc => ?_, fun hc => ?_⟩
    · replace h := h.1 hc
      refine Wp.pk 1 (pc' := 17) (lv' := [some (.ref 1), some (.int x1)]) (st' := [.int 0]) rfl ?_
      exact Wp.iret rfl rfl ⟨rfl, h⟩
    · replace h := h.2 hc
      refine Wp.pk 2 (pc' := 17) (lv' := [some (.ref 1), some (.int x1)]) (st' := [.int 1]) rfl ?_
      exact Wp.iret rfl rfl ⟨rfl, h⟩
theorem eX5_hasCell_0 {X : a_X} {m : Nat → Nat → Int32} {Q : Option Value → (Nat → Nat → Int32) → Prop} {x1 x2 : Int32} (h : (x1 < 0 → Q (some (.int 0)) m) ∧ (¬ x1 < 0 → ((m 1 0) ≤ x1 → Q (some (.int 0)) m) ∧ (¬ (m 1 0) ≤ x1 → (x2 < 0 → Q (some (.int 0)) m) ∧ (¬ x2 < 0 → ((m 1 1) ≤ x2 → Q (some (.int 0)) m) ∧ (¬ (m 1 1) ≤ x2 → Q (some (.int 1)) m))))) : Call X mX5_hasCell [.ref 1, .int x1, .int x2] m Q := by
  unfold Call
  refine Wp.loc (lv' := [some (.ref 1), some (.int x1), some (.int x2)]) rfl ?_
  refine Wp.pk 1 (pc' := 1) (lv' := [some (.ref 1), some (.int x1), some (.int x2)]) (st' := [.int x1]) rfl ?_
  refine Wp.if_lt rfl rfl ⟨fun hc => ?_, fun hc => ?_⟩
  · replace h := h.1 hc
    refine Wp.pk 1 (pc' := 29) (lv' := [some (.ref 1), some (.int x1), some (.int x2)]) (st' := [.int 0]) rfl ?_
    exact Wp.iret rfl rfl ⟨rfl, h⟩
  · replace h := h.2 hc
    refine Wp.pk 2 (pc' := 6) (lv' := [some (.ref 1), some (.int x1), some (.int x2)]) (st' := [.ref 1, .int x1]) rfl ?_
    refine Wp.getI rfl rfl sh1 rfl ?_
    refine Wp.icmp_ge rfl rfl ⟨fun hc => ?_, fun hc => ?_⟩
    · replace h := h.1 hc
      refine Wp.pk 1 (pc' := 29) (lv' := [some (.ref 1), some (.int x1), some (.int x2)]) (st' := [.int 0]) rfl ?_
      exact Wp.iret rfl rfl ⟨rfl, h⟩
    · replace h := h.2 hc
      refine Wp.pk 1 (pc' := 13) (lv' := [some (.ref 1), some (.int x1), some (.int x2)]) (st' := [.int x2]) rfl ?_
      refine Wp.if_lt rfl rfl ⟨fun hc => ?_, fun hc => ?_⟩
      · replace h := h.1 hc
        refine Wp.pk 1 (pc' := 29) (lv' := [some (.ref 1), some (.int x1), some (.int x2)]) (st' := [.int 0]) rfl ?_
        exact Wp.iret rfl rfl ⟨rfl, h⟩
      · replace h := h.2 hc
        refine Wp.pk 2 (pc' := 18) (lv' := [some (.ref 1), some (.int x1), some (.int x2)]) (st' := [.ref 1, .int x2]) rfl ?_
        refine Wp.getI rfl rfl sh1 rfl ?_
        refine Wp.icmp_ge rfl rfl ⟨fun hc => ?_, fun hc => ?_⟩
        · replace h := h.1 hc
          refine Wp.pk 1 (pc' := 29) (lv' := [some (.ref 1), some (.int x1), some (.int x2)]) (st' := [.int 0]) rfl ?_
          exact Wp.iret rfl rfl ⟨rfl, h⟩
        · replace h := h.2 hc
          refine Wp.pk 2 (pc' := 29) (lv' := [some (.ref 1), some (.int x1), some (.int x2)]) (st' := [.int 1]) rfl ?_
          exact Wp.iret rfl rfl ⟨rfl, h⟩
theorem eX5_holds_0 {X : a_X} {m : Nat → Nat → Int32} {Q : Option Value → (Nat → Nat → Int32) → Prop} {x1 x2 x3 : Int32} (h : (x2 < 0 → Q (some (.int 0)) m) ∧ (¬ x2 < 0 → (x3 < 0 → Q (some (.int 0)) m) ∧ (¬ x3 < 0 → vp_in x1 12 ∧ (((m 1 0) - (m 5 (Int32.toNatClampNeg x1))) < x2 → Q (some (.int 0)) m) ∧ (¬ ((m 1 0) - (m 5 (Int32.toNatClampNeg x1))) < x2 → vp_in x1 12 ∧ (((m 1 1) - (m 6 (Int32.toNatClampNeg x1))) < x3 → Q (some (.int 0)) m) ∧ (¬ ((m 1 1) - (m 6 (Int32.toNatClampNeg x1))) < x3 → Q (some (.int 1)) m))))) : Call X mX5_holds [.ref 1, .int x1, .int x2, .int x3] m Q := by
  unfold Call
  refine Wp.loc (lv' := [some (.ref 1), some (.int x1), some (.int x2), some (.int x3)]) rfl ?_
  refine Wp.pk 1 (pc' := 1) (lv' := [some (.ref 1), some (.int x1), some (.int x2), some (.int x3)]) (st' := [.int x2]) rfl ?_
  refine Wp.if_lt rfl rfl ⟨fun hc => ?_, fun hc => ?_⟩
  · replace h := h.1 hc
    refine Wp.pk 1 (pc' := 43) (lv' := [some (.ref 1), some (.int x1), some (.int x2), some (.int x3)]) (st' := [.int 0]) rfl ?_
    exact Wp.iret rfl rfl ⟨rfl, h⟩
  · replace h := h.2 hc
    refine Wp.pk 1 (pc' := 5) (lv' := [some (.ref 1), some (.int x1), some (.int x2), some (.int x3)]) (st' := [.int x3]) rfl ?_
    refine Wp.if_lt rfl rfl ⟨fun hc => ?_, fun hc => ?_⟩
    · replace h := h.1 hc
      refine Wp.pk 1 (pc' := 43) (lv' := [some (.ref 1), some (.int x1), some (.int x2), some (.int x3)]) (st' := [.int 0]) rfl ?_
      exact Wp.iret rfl rfl ⟨rfl, h⟩
    · replace h := h.2 hc
      refine Wp.pk 2 (pc' := 10) (lv' := [some (.ref 1), some (.int x1), some (.int x2), some (.int x3)]) (st' := [.ref 1, .int x2]) rfl ?_
      refine Wp.getI rfl rfl sh1 rfl ?_
      refine Wp.pk 1 (pc' := 14) (lv' := [some (.ref 1), some (.int x1), some (.int x2), some (.int x3)]) (st' := [.ref 1, .int (m 1 0), .int x2]) rfl ?_
      refine Wp.getR rfl rfl sh1 rfl ?_
      refine Wp.pk 1 (pc' := 18) (lv' := [some (.ref 1), some (.int x1), some (.int x2), some (.int x3)]) (st' := [.int x1, .ref 5, .int (m 1 0), .int x2]) rfl ?_
      refine Wp.iald rfl sh5 ⟨h.1, ?_⟩
      replace h := h.2
      refine Wp.pk 1 (pc' := 20) (lv' := [some (.ref 1), some (.int x1), some (.int x2), some (.int x3)]) (st' := [.int ((m 1 0) - (m 5 (Int32.toNatClampNeg x1))), .int x2]) rfl ?_
      refine Wp.icmp_gt rfl rfl ⟨fun hc => ?_, fun hc => ?_⟩
      · replace h := h.1 hc
        refine Wp.pk 1 (pc' := 43) (lv' := [some (.ref 1), some (.int x1), some (.int x2), some (.int x3)]) (st' := [.int 0]) rfl ?_
        exact Wp.iret rfl rfl ⟨rfl, h⟩
      · replace h := h.2 hc
        refine Wp.pk 2 (pc' := 25) (lv' := [some (.ref 1), some (.int x1), some (.int x2), some (.int x3)]) (st' := [.ref 1, .int x3]) rfl ?_
        refine Wp.getI rfl rfl sh1 rfl ?_
        refine Wp.pk 1 (pc' := 29) (lv' := [some (.ref 1), some (.int x1), some (.int x2), some (.int x3)]) (st' := [.ref 1, .int (m 1 1), .int x3]) rfl ?_
        refine Wp.getR rfl rfl sh1 rfl ?_
        refine Wp.pk 1 (pc' := 33) (lv' := [some (.ref 1), some (.int x1), some (.int x2), some (.int x3)]) (st' := [.int x1, .ref 6, .int (m 1 1), .int x3]) rfl ?_
        refine Wp.iald rfl sh6 ⟨h.1, ?_⟩
        replace h := h.2
        refine Wp.pk 1 (pc' := 35) (lv' := [some (.ref 1), some (.int x1), some (.int x2), some (.int x3)]) (st' := [.int ((m 1 1) - (m 6 (Int32.toNatClampNeg x1))), .int x3]) rfl ?_
        refine Wp.icmp_gt rfl rfl ⟨fun hc => ?_, fun hc => ?_⟩
        · replace h := h.1 hc
          refine Wp.pk 1 (pc' := 43) (lv' := [some (.ref 1), some (.int x1), some (.int x2), some (.int x3)]) (st' := [.int 0]) rfl ?_
          exact Wp.iret rfl rfl ⟨rfl, h⟩
        · replace h := h.2 hc
          refine Wp.pk 2 (pc' := 43) (lv' := [some (.ref 1), some (.int x1), some (.int x2), some (.int x3)]) (st' := [.int 1]) rfl ?_
          exact Wp.iret rfl rfl ⟨rfl, h⟩
theorem eX5_isBarred_0 {X : a_X} {m : Nat → Nat → Int32} {Q : Option Value → (Nat → Nat → Int32) → Prop} {x1 x2 x3 : Int32} (h : vp_in x1 12 ∧ Wp X mX5_isBarred 17 [some (.ref 1), some (.int x1), none, some (.int x3), some (.int (((1 <<< ((m 5 (Int32.toNatClampNeg x1)) &&& 31)) - 1) <<< (x2 &&& 31))), some (.int x3)] [] m Q) : Call X mX5_isBarred [.ref 1, .int x1, .int x2, .int x3] m Q := by
  unfold Call
  refine Wp.loc (lv' := [some (.ref 1), some (.int x1), some (.int x2), some (.int x3), none, none]) rfl ?_
  refine Wp.pk 2 (pc' := 2) (lv' := [some (.ref 1), some (.int x1), some (.int x2), some (.int x3), none, none]) (st' := [.ref 1, .int 1]) rfl ?_
  refine Wp.getR rfl rfl sh1 rfl ?_
  refine Wp.pk 1 (pc' := 6) (lv' := [some (.ref 1), some (.int x1), some (.int x2), some (.int x3), none, none]) (st' := [.int x1, .ref 5, .int 1]) rfl ?_
  refine Wp.iald rfl sh5 ⟨h.1, ?_⟩
  replace h := h.2
  refine Wp.pk 8 (pc' := 17) (lv' := [some (.ref 1), some (.int x1), some (.int x2), some (.int x3), some (.int (((1 <<< ((m 5 (Int32.toNatClampNeg x1)) &&& 31)) - 1) <<< (x2 &&& 31))), some (.int x3)]) (st' := []) rfl ?_
  exact Wp.fgt (lv := [some (.ref 1), some (.int x1), none, some (.int x3), some (.int (((1 <<< ((m 5 (Int32.toNatClampNeg x1)) &&& 31)) - 1) <<< (x2 &&& 31))), some (.int x3)]) (a_lle.of (a_lleb_e (a_lleb_e (a_lleb_i (a_lleb_e (a_lleb_e (a_lleb_e trivial))))))) h
theorem eX5_isBarred_17 {X : a_X} {m : Nat → Nat → Int32} {Q : Option Value → (Nat → Nat → Int32) → Prop} {x1 x3 x4 x5 : Int32} (h : vp_in x1 12 ∧ ((x3 + (m 6 (Int32.toNatClampNeg x1))) ≤ x5 → Q (some (.int 0)) m) ∧ (¬ (x3 + (m 6 (Int32.toNatClampNeg x1))) ≤ x5 → vp_in x5 8 ∧ (((m 3 (Int32.toNatClampNeg x5)) &&& x4) = 0 → Wp X mX5_isBarred 17 [some (.ref 1), some (.int x1), none, some (.int x3), some (.int x4), some (.int (x5 + 1))] [] m Q) ∧ (¬ ((m 3 (Int32.toNatClampNeg x5)) &&& x4) = 0 → Q (some (.int 1)) m))) : Wp X mX5_isBarred 17 [some (.ref 1), some (.int x1), none, some (.int x3), some (.int x4), some (.int x5)] [] m Q := by
  refine Wp.pk 3 (pc' := 21) (lv' := [some (.ref 1), some (.int x1), none, some (.int x3), some (.int x4), some (.int x5)]) (st' := [.ref 1, .int x3, .int x5]) rfl ?_
  refine Wp.getR rfl rfl sh1 rfl ?_
  refine Wp.pk 1 (pc' := 25) (lv' := [some (.ref 1), some (.int x1), none, some (.int x3), some (.int x4), some (.int x5)]) (st' := [.int x1, .ref 6, .int x3, .int x5]) rfl ?_
  refine Wp.iald rfl sh6 ⟨h.1, ?_⟩
  replace h := h.2
  refine Wp.pk 1 (pc' := 27) (lv' := [some (.ref 1), some (.int x1), none, some (.int x3), some (.int x4), some (.int x5)]) (st' := [.int (x3 + (m 6 (Int32.toNatClampNeg x1))), .int x5]) rfl ?_
  refine Wp.icmp_ge rfl rfl ⟨fun hc => ?_, fun hc => ?_⟩
  · replace h := h.1 hc
    refine Wp.pk 1 (pc' := 52) (lv' := [some (.ref 1), some (.int x1), none, some (.int x3), some (.int x4), some (.int x5)]) (st' := [.int 0]) rfl ?_
    exact Wp.iret rfl rfl ⟨rfl, h⟩
  · replace h := h.2 hc
    refine Wp.pk 1 (pc' := 31) (lv' := [some (.ref 1), some (.int x1), none, some (.int x3), some (.int x4), some (.int x5)]) (st' := [.ref 1]) rfl ?_
    refine Wp.getR rfl rfl sh1 rfl ?_
    refine Wp.pk 1 (pc' := 36) (lv' := [some (.ref 1), some (.int x1), none, some (.int x3), some (.int x4), some (.int x5)]) (st' := [.int x5, .ref 3]) rfl ?_
    refine Wp.iald rfl sh3 ⟨h.1, ?_⟩
    replace h := h.2
    refine Wp.pk 2 (pc' := 40) (lv' := [some (.ref 1), some (.int x1), none, some (.int x3), some (.int x4), some (.int x5)]) (st' := [.int ((m 3 (Int32.toNatClampNeg x5)) &&& x4)]) rfl ?_
    refine Wp.if_eq rfl rfl ⟨fun hc => ?_, fun hc => ?_⟩
    · replace h := h.1 hc
      refine Wp.pk 2 (pc' := 17) (lv' := [some (.ref 1), some (.int x1), none, some (.int x3), some (.int x4), some (.int (x5 + 1))]) (st' := []) rfl ?_
      exact h
    · replace h := h.2 hc
      refine Wp.pk 1 (pc' := 44) (lv' := [some (.ref 1), some (.int x1), none, some (.int x3), some (.int x4), some (.int x5)]) (st' := [.int 1]) rfl ?_
      exact Wp.iret rfl rfl ⟨rfl, h⟩
theorem eX5_canRead_0 {X : a_X} {m : Nat → Nat → Int32} {Q : Option Value → (Nat → Nat → Int32) → Prop} {x1 x2 : Int32} (h : ((100 * x1) < ((m 1 4) * x2) → Q (some (.int 0)) m) ∧ (¬ (100 * x1) < ((m 1 4) * x2) → Q (some (.int 1)) m)) : Call X mX5_canRead [.ref 1, .int x1, .int x2] m Q := by
  unfold Call
  refine Wp.loc (lv' := [some (.ref 1), some (.int x1), some (.int x2)]) rfl ?_
  refine Wp.pk 4 (pc' := 5) (lv' := [some (.ref 1), some (.int x1), some (.int x2)]) (st' := [.ref 1, .int (100 * x1)]) rfl ?_
  refine Wp.getI rfl rfl sh1 rfl ?_
  refine Wp.pk 2 (pc' := 10) (lv' := [some (.ref 1), some (.int x1), some (.int x2)]) (st' := [.int ((m 1 4) * x2), .int (100 * x1)]) rfl ?_
  refine Wp.icmp_lt rfl rfl ⟨fun hc => ?_, fun hc => ?_⟩
  · replace h := h.1 hc
    refine Wp.pk 1 (pc' := 18) (lv' := [some (.ref 1), some (.int x1), some (.int x2)]) (st' := [.int 0]) rfl ?_
    exact Wp.iret rfl rfl ⟨rfl, h⟩
  · replace h := h.2 hc
    refine Wp.pk 2 (pc' := 18) (lv' := [some (.ref 1), some (.int x1), some (.int x2)]) (st' := [.int 1]) rfl ?_
    exact Wp.iret rfl rfl ⟨rfl, h⟩
theorem eX5_passersOf_0 {X : a_X} {m : Nat → Nat → Int32} {Q : Option Value → (Nat → Nat → Int32) → Prop} {x1 x2 : Int32} (h : Wp X mX5_passersOf 5 [some (.ref 1), some (.int x1), some (.int x2), some (.int 0), some (.int x2)] [] m Q) : Call X mX5_passersOf [.ref 1, .int x1, .int x2] m Q := by
  unfold Call
  refine Wp.loc (lv' := [some (.ref 1), some (.int x1), some (.int x2), none, none]) rfl ?_
  refine Wp.pk 4 (pc' := 5) (lv' := [some (.ref 1), some (.int x1), some (.int x2), some (.int 0), some (.int x2)]) (st' := []) rfl ?_
  exact h
theorem eX5_passersOf_5 {X : a_X} {m : Nat → Nat → Int32} {Q : Option Value → (Nat → Nat → Int32) → Prop} {x1 x2 x3 x4 : Int32} (h : vp_in x1 12 ∧ ((x2 + (m 5 (Int32.toNatClampNeg x1))) ≤ x4 → vp_in x1 12 ∧ Q (some (.int (x3 * (m 6 (Int32.toNatClampNeg x1))))) m) ∧ (¬ (x2 + (m 5 (Int32.toNatClampNeg x1))) ≤ x4 → vp_in x4 16 ∧ Wp X mX5_passersOf 5 [some (.ref 1), some (.int x1), some (.int x2), some (.int (x3 + (m 2 (Int32.toNatClampNeg x4)))), some (.int (x4 + 1))] [] m Q)) : Wp X mX5_passersOf 5 [some (.ref 1), some (.int x1), some (.int x2), some (.int x3), some (.int x4)] [] m Q := by
  refine Wp.pk 3 (pc' := 9) (lv' := [some (.ref 1), some (.int x1), some (.int x2), some (.int x3), some (.int x4)]) (st' := [.ref 1, .int x2, .int x4]) rfl ?_
  refine Wp.getR rfl rfl sh1 rfl ?_
  refine Wp.pk 1 (pc' := 13) (lv' := [some (.ref 1), some (.int x1), some (.int x2), some (.int x3), some (.int x4)]) (st' := [.int x1, .ref 5, .int x2, .int x4]) rfl ?_
  refine Wp.iald rfl sh5 ⟨h.1, ?_⟩
  replace h := h.2
  refine Wp.pk 1 (pc' := 15) (lv' := [some (.ref 1), some (.int x1), some (.int x2), some (.int x3), some (.int x4)]) (st' := [.int (x2 + (m 5 (Int32.toNatClampNeg x1))), .int x4]) rfl ?_
  refine Wp.icmp_ge rfl rfl ⟨fun hc => ?_, fun hc => ?_⟩
  · replace h := h.1 hc
    refine Wp.pk 2 (pc' := 36) (lv' := [some (.ref 1), some (.int x1), some (.int x2), some (.int x3), some (.int x4)]) (st' := [.ref 1, .int x3]) rfl ?_
    refine Wp.getR rfl rfl sh1 rfl ?_
    refine Wp.pk 1 (pc' := 40) (lv' := [some (.ref 1), some (.int x1), some (.int x2), some (.int x3), some (.int x4)]) (st' := [.int x1, .ref 6, .int x3]) rfl ?_
    refine Wp.iald rfl sh6 ⟨h.1, ?_⟩
    replace h := h.2
    refine Wp.pk 1 (pc' := 42) (lv' := [some (.ref 1), some (.int x1), some (.int x2), some (.int x3), some (.int x4)]) (st' := [.int (x3 * (m 6 (Int32.toNatClampNeg x1)))]) rfl ?_
    exact Wp.iret rfl rfl ⟨rfl, h⟩
  · replace h := h.2 hc
    refine Wp.pk 2 (pc' := 20) (lv' := [some (.ref 1), some (.int x1), some (.int x2), some (.int x3), some (.int x4)]) (st' := [.ref 1, .int x3]) rfl ?_
    refine Wp.getR rfl rfl sh1 rfl ?_
    refine Wp.pk 1 (pc' := 25) (lv' := [some (.ref 1), some (.int x1), some (.int x2), some (.int x3), some (.int x4)]) (st' := [.int x4, .ref 2, .int x3]) rfl ?_
    refine Wp.iald rfl sh2 ⟨h.1, ?_⟩
    replace h := h.2
    refine Wp.pk 4 (pc' := 5) (lv' := [some (.ref 1), some (.int x1), some (.int x2), some (.int (x3 + (m 2 (Int32.toNatClampNeg x4)))), some (.int (x4 + 1))]) (st' := []) rfl ?_
    exact h
theorem eX8_isIn_0 {X : a_X} {m : Nat → Nat → Int32} {Q : Option Value → (Nat → Nat → Int32) → Prop} {x0 x1 : Int32} (h : (((x0 >>> (x1 &&& 31)) &&& 1) = 0 → Q (some (.int 0)) m) ∧ (¬ ((x0 >>> (x1 &&& 31)) &&& 1) = 0 → Q (some (.int 1)) m)) : Call X mX8_isIn [.int x0, .int x1] m Q := by
  unfold Call
  refine Wp.loc (lv' := [some (.int x0), some (.int x1)]) rfl ?_
  refine Wp.pk 5 (pc' := 5) (lv' := [some (.int x0), some (.int x1)]) (st' := [.int ((x0 >>> (x1 &&& 31)) &&& 1)]) rfl ?_
  refine Wp.if_eq rfl rfl ⟨fun hc => ?_, fun hc => ?_⟩
  · replace h := h.1 hc
    refine Wp.pk 1 (pc' := 13) (lv' := [some (.int x0), some (.int x1)]) (st' := [.int 0]) rfl ?_
    exact Wp.iret rfl rfl ⟨rfl, h⟩
  · replace h := h.2 hc
    refine Wp.pk 2 (pc' := 13) (lv' := [some (.int x0), some (.int x1)]) (st' := [.int 1]) rfl ?_
    exact Wp.iret rfl rfl ⟨rfl, h⟩
theorem eX8_cellAt_0 {X : a_X} {m : Nat → Nat → Int32} {Q : Option Value → (Nat → Nat → Int32) → Prop} {x0 x1 : Int32} (h : Q (some (.int ((x1 * 16) + x0))) m) : Call X mX8_cellAt [.int x0, .int x1] m Q := by
  unfold Call
  refine Wp.loc (lv' := [some (.int x0), some (.int x1)]) rfl ?_
  refine Wp.pk 5 (pc' := 6) (lv' := [some (.int x0), some (.int x1)]) (st' := [.int ((x1 * 16) + x0)]) rfl ?_
  exact Wp.iret rfl rfl ⟨rfl, h⟩
theorem eJ7_fill_53178_8_0 {X : a_X} {m : Nat → Nat → Int32} {Q : Option Value → (Nat → Nat → Int32) → Prop} {x1 : Int32} (h : Wp X mJ7_fill_53178 5 [some (.ref 8), some (.int x1), some (.int 0), some (.int 16)] [] m Q) : Call X mJ7_fill_53178 [.ref 8, .int x1] m Q := by
  unfold Call
  refine Wp.loc (lv' := [some (.ref 8), some (.int x1), none, none]) rfl ?_
  refine Wp.pk 3 (pc' := 3) (lv' := [some (.ref 8), some (.int x1), some (.int 0), none]) (st' := [.ref 8]) rfl ?_
  refine Wp.alen rfl sh8 (by decide) rfl ?_
  refine Wp.pk 1 (pc' := 5) (lv' := [some (.ref 8), some (.int x1), some (.int 0), some (.int 16)]) (st' := []) rfl ?_
  exact h
theorem eJ7_fill_53178_8_5 {X : a_X} {m : Nat → Nat → Int32} {Q : Option Value → (Nat → Nat → Int32) → Prop} {x1 x2 x3 : Int32} (h : (x3 ≤ x2 → Q none m) ∧ (¬ x3 ≤ x2 → vp_in x2 16 ∧ ∀ m1, m1 = (a_up m 8 (Int32.toNatClampNeg x2) x1) → Wp X mJ7_fill_53178 5 [some (.ref 8), some (.int x1), some (.int (x2 + 1)), some (.int x3)] [] m1 Q)) : Wp X mJ7_fill_53178 5 [some (.ref 8), some (.int x1), some (.int x2), some (.int x3)] [] m Q := by
  refine Wp.pk 2 (pc' := 7) (lv' := [some (.ref 8), some (.int x1), some (.int x2), some (.int x3)]) (st' := [.int x3, .int x2]) rfl ?_
  refine Wp.icmp_ge rfl rfl ⟨fun hc => ?_, fun hc => ?_⟩
  · replace h := h.1 hc
    exact Wp.vret rfl rfl h
  · replace h := h.2 hc
    refine Wp.pk 3 (pc' := 13) (lv' := [some (.ref 8), some (.int x1), some (.int x2), some (.int x3)]) (st' := [.int x1, .int x2, .ref 8]) rfl ?_
    refine Wp.iastN rfl sh8 h.1 (fun m1 hm => ?_)
    replace h := h.2 _ hm
    refine Wp.pk 2 (pc' := 5) (lv' := [some (.ref 8), some (.int x1), some (.int (x2 + 1)), some (.int x3)]) (st' := []) rfl ?_
    exact h
theorem eJ7_fill_53178_9_0 {X : a_X} {m : Nat → Nat → Int32} {Q : Option Value → (Nat → Nat → Int32) → Prop} {x1 : Int32} (h : Wp X mJ7_fill_53178 5 [some (.ref 9), some (.int x1), some (.int 0), some (.int 8)] [] m Q) : Call X mJ7_fill_53178 [.ref 9, .int x1] m Q := by
  unfold Call
  refine Wp.loc (lv' := [some (.ref 9), some (.int x1), none, none]) rfl ?_
  refine Wp.pk 3 (pc' := 3) (lv' := [some (.ref 9), some (.int x1), some (.int 0), none]) (st' := [.ref 9]) rfl ?_
  refine Wp.alen rfl sh9 (by decide) rfl ?_
  refine Wp.pk 1 (pc' := 5) (lv' := [some (.ref 9), some (.int x1), some (.int 0), some (.int 8)]) (st' := []) rfl ?_
  exact h
theorem eJ7_fill_53178_9_5 {X : a_X} {m : Nat → Nat → Int32} {Q : Option Value → (Nat → Nat → Int32) → Prop} {x1 x2 x3 : Int32} (h : (x3 ≤ x2 → Q none m) ∧ (¬ x3 ≤ x2 → vp_in x2 8 ∧ ∀ m1, m1 = (a_up m 9 (Int32.toNatClampNeg x2) x1) → Wp X mJ7_fill_53178 5 [some (.ref 9), some (.int x1), some (.int (x2 + 1)), some (.int x3)] [] m1 Q)) : Wp X mJ7_fill_53178 5 [some (.ref 9), some (.int x1), some (.int x2), some (.int x3)] [] m Q := by
  refine Wp.pk 2 (pc' := 7) (lv' := [some (.ref 9), some (.int x1), some (.int x2), some (.int x3)]) (st' := [.int x3, .int x2]) rfl ?_
  refine Wp.icmp_ge rfl rfl ⟨fun hc => ?_, fun hc => ?_⟩
  · replace h := h.1 hc
    exact Wp.vret rfl rfl h
  · replace h := h.2 hc
    refine Wp.pk 3 (pc' := 13) (lv' := [some (.ref 9), some (.int x1), some (.int x2), some (.int x3)]) (st' := [.int x1, .int x2, .ref 9]) rfl ?_
    refine Wp.iastN rfl sh9 h.1 (fun m1 hm => ?_)
    replace h := h.2 _ hm
    refine Wp.pk 2 (pc' := 5) (lv' := [some (.ref 9), some (.int x1), some (.int (x2 + 1)), some (.int x3)]) (st' := []) rfl ?_
    exact h
theorem eJ6_numberOfLeadingZeros_0f7a4_0 {X : a_X} {m : Nat → Nat → Int32} {Q : Option Value → (Nat → Nat → Int32) → Prop} {x0 : Int32} (h : (0 < x0 → Wp X mJ6_numberOfLeadingZeros_0f7a4 18 [some (.int x0), some (.int 31)] [] m Q) ∧ (¬ 0 < x0 → (¬ x0 = 0 → Q (some (.int 0)) m) ∧ (x0 = 0 → Q (some (.int 32)) m))) : Call X mJ6_numberOfLeadingZeros_0f7a4 [.int x0] m Q := by
  unfold Call
  refine Wp.loc (lv' := [some (.int x0), none]) rfl ?_
  refine Wp.pk 1 (pc' := 1) (lv' := [some (.int x0), none]) (st' := [.int x0]) rfl ?_
  refine Wp.if_gt rfl rfl ⟨fun hc => ?_, fun hc => ?_⟩
  · replace h := h.1 hc
    refine Wp.pk 2 (pc' := 18) (lv' := [some (.int x0), some (.int 31)]) (st' := []) rfl ?_
    exact h
  · replace h := h.2 hc
    refine Wp.pk 1 (pc' := 5) (lv' := [some (.int x0), none]) (st' := [.int x0]) rfl ?_
    refine Wp.if_ne rfl rfl ⟨fun hc => ?_, fun hc => ?_⟩
    · replace h := h.1 hc
      refine Wp.pk 1 (pc' := 14) (lv' := [some (.int x0), none]) (st' := [.int 0]) rfl ?_
      exact Wp.iret rfl rfl ⟨rfl, h⟩
    · replace h := h.2 hc
      refine Wp.pk 2 (pc' := 14) (lv' := [some (.int x0), none]) (st' := [.int 32]) rfl ?_
      exact Wp.iret rfl rfl ⟨rfl, h⟩
theorem eJ6_numberOfLeadingZeros_0f7a4_18 {X : a_X} {m : Nat → Nat → Int32} {Q : Option Value → (Nat → Nat → Int32) → Prop} {x0 x1 : Int32} (h : (x0 < 65536 → Wp X mJ6_numberOfLeadingZeros_0f7a4 33 [some (.int x0), some (.int x1)] [] m Q) ∧ (¬ x0 < 65536 → Wp X mJ6_numberOfLeadingZeros_0f7a4 33 [some (.int (a_ush x0 16)), some (.int (x1 + (-16)))] [] m Q)) : Wp X mJ6_numberOfLeadingZeros_0f7a4 18 [some (.int x0), some (.int x1)] [] m Q := by
  refine Wp.pk 1 (pc' := 19) (lv' := [some (.int x0), some (.int x1)]) (st' := [.int x0]) rfl ?_
  refine Wp.ldc_w rfl rfl ?_
  refine Wp.icmp_lt rfl rfl ⟨fun hc => ?_, fun hc => ?_⟩
  · replace h := h.1 hc
    exact h
  · replace h := h.2 hc
    refine Wp.pk 5 (pc' := 33) (lv' := [some (.int (a_ush x0 16)), some (.int (x1 + (-16)))]) (st' := []) rfl ?_
    exact h
theorem eJ6_numberOfLeadingZeros_0f7a4_33 {X : a_X} {m : Nat → Nat → Int32} {Q : Option Value → (Nat → Nat → Int32) → Prop} {x0 x1 : Int32} (h : (x0 < 256 → Wp X mJ6_numberOfLeadingZeros_0f7a4 48 [some (.int x0), some (.int x1)] [] m Q) ∧ (¬ x0 < 256 → Wp X mJ6_numberOfLeadingZeros_0f7a4 48 [some (.int (a_ush x0 8)), some (.int (x1 + (-8)))] [] m Q)) : Wp X mJ6_numberOfLeadingZeros_0f7a4 33 [some (.int x0), some (.int x1)] [] m Q := by
  refine Wp.pk 2 (pc' := 37) (lv' := [some (.int x0), some (.int x1)]) (st' := [.int 256, .int x0]) rfl ?_
  refine Wp.icmp_lt rfl rfl ⟨fun hc => ?_, fun hc => ?_⟩
  · replace h := h.1 hc
    exact h
  · replace h := h.2 hc
    refine Wp.pk 5 (pc' := 48) (lv' := [some (.int (a_ush x0 8)), some (.int (x1 + (-8)))]) (st' := []) rfl ?_
    exact h
theorem eJ6_numberOfLeadingZeros_0f7a4_48 {X : a_X} {m : Nat → Nat → Int32} {Q : Option Value → (Nat → Nat → Int32) → Prop} {x0 x1 : Int32} (h : (x0 < 16 → Wp X mJ6_numberOfLeadingZeros_0f7a4 61 [some (.int x0), some (.int x1)] [] m Q) ∧ (¬ x0 < 16 → Wp X mJ6_numberOfLeadingZeros_0f7a4 61 [some (.int (a_ush x0 4)), some (.int (x1 + (-4)))] [] m Q)) : Wp X mJ6_numberOfLeadingZeros_0f7a4 48 [some (.int x0), some (.int x1)] [] m Q := by
  refine Wp.pk 2 (pc' := 51) (lv' := [some (.int x0), some (.int x1)]) (st' := [.int 16, .int x0]) rfl ?_
  refine Wp.icmp_lt rfl rfl ⟨fun hc => ?_, fun hc => ?_⟩
  · replace h := h.1 hc
    exact h
  · replace h := h.2 hc
    refine Wp.pk 5 (pc' := 61) (lv' := [some (.int (a_ush x0 4)), some (.int (x1 + (-4)))]) (st' := []) rfl ?_
    exact h
theorem eJ6_numberOfLeadingZeros_0f7a4_61 {X : a_X} {m : Nat → Nat → Int32} {Q : Option Value → (Nat → Nat → Int32) → Prop} {x0 x1 : Int32} (h : (x0 < 4 → Wp X mJ6_numberOfLeadingZeros_0f7a4 73 [some (.int x0), some (.int x1)] [] m Q) ∧ (¬ x0 < 4 → Wp X mJ6_numberOfLeadingZeros_0f7a4 73 [some (.int (a_ush x0 2)), some (.int (x1 + (-2)))] [] m Q)) : Wp X mJ6_numberOfLeadingZeros_0f7a4 61 [some (.int x0), some (.int x1)] [] m Q := by
  refine Wp.pk 2 (pc' := 63) (lv' := [some (.int x0), some (.int x1)]) (st' := [.int 4, .int x0]) rfl ?_
  refine Wp.icmp_lt rfl rfl ⟨fun hc => ?_, fun hc => ?_⟩
  · replace h := h.1 hc
    exact h
  · replace h := h.2 hc
    refine Wp.pk 5 (pc' := 73) (lv' := [some (.int (a_ush x0 2)), some (.int (x1 + (-2)))]) (st' := []) rfl ?_
    exact h
theorem eJ6_numberOfLeadingZeros_0f7a4_73 {X : a_X} {m : Nat → Nat → Int32} {Q : Option Value → (Nat → Nat → Int32) → Prop} {x0 x1 : Int32} (h : Q (some (.int (x1 - (a_ush x0 1)))) m) : Wp X mJ6_numberOfLeadingZeros_0f7a4 73 [some (.int x0), some (.int x1)] [] m Q := by
  refine Wp.pk 5 (pc' := 78) (lv' := [some (.int x0), some (.int x1)]) (st' := [.int (x1 - (a_ush x0 1))]) rfl ?_
  exact Wp.iret rfl rfl ⟨rfl, h⟩
theorem eJ6_bitCount_0f7a4_0 {X : a_X} {m : Nat → Nat → Int32} {Q : Option Value → (Nat → Nat → Int32) → Prop} {x0 : Int32} (h : Q (some (.int ((((((((x0 - ((a_ush x0 1) &&& 1431655765)) &&& 858993459) + ((a_ush (x0 - ((a_ush x0 1) &&& 1431655765)) 2) &&& 858993459)) + (a_ush (((x0 - ((a_ush x0 1) &&& 1431655765)) &&& 858993459) + ((a_ush (x0 - ((a_ush x0 1) &&& 1431655765)) 2) &&& 858993459)) 4)) &&& 252645135) + (a_ush (((((x0 - ((a_ush x0 1) &&& 1431655765)) &&& 858993459) + ((a_ush (x0 - ((a_ush x0 1) &&& 1431655765)) 2) &&& 858993459)) + (a_ush (((x0 - ((a_ush x0 1) &&& 1431655765)) &&& 858993459) + ((a_ush (x0 - ((a_ush x0 1) &&& 1431655765)) 2) &&& 858993459)) 4)) &&& 252645135) 8)) + (a_ush ((((((x0 - ((a_ush x0 1) &&& 1431655765)) &&& 858993459) + ((a_ush (x0 - ((a_ush x0 1) &&& 1431655765)) 2) &&& 858993459)) + (a_ush (((x0 - ((a_ush x0 1) &&& 1431655765)) &&& 858993459) + ((a_ush (x0 - ((a_ush x0 1) &&& 1431655765)) 2) &&& 858993459)) 4)) &&& 252645135) + (a_ush (((((x0 - ((a_ush x0 1) &&& 1431655765)) &&& 858993459) + ((a_ush (x0 - ((a_ush x0 1) &&& 1431655765)) 2) &&& 858993459)) + (a_ush (((x0 - ((a_ush x0 1) &&& 1431655765)) &&& 858993459) + ((a_ush (x0 - ((a_ush x0 1) &&& 1431655765)) 2) &&& 858993459)) 4)) &&& 252645135) 8)) 16)) &&& 63))) m) : Call X mJ6_bitCount_0f7a4 [.int x0] m Q := by
  unfold Call
  refine Wp.loc (lv' := [some (.int x0)]) rfl ?_
  refine Wp.pk 4 (pc' := 4) (lv' := [some (.int x0)]) (st' := [.int (a_ush x0 1), .int x0]) rfl ?_
  refine Wp.ldc_w rfl rfl ?_
  refine Wp.pk 4 (pc' := 11) (lv' := [some (.int (x0 - ((a_ush x0 1) &&& 1431655765)))]) (st' := [.int (x0 - ((a_ush x0 1) &&& 1431655765))]) rfl ?_
  refine Wp.ldc_w rfl rfl ?_
  refine Wp.pk 4 (pc' := 18) (lv' := [some (.int (x0 - ((a_ush x0 1) &&& 1431655765)))]) (st' := [.int (a_ush (x0 - ((a_ush x0 1) &&& 1431655765)) 2), .int ((x0 - ((a_ush x0 1) &&& 1431655765)) &&& 858993459)]) rfl ?_
  refine Wp.ldc_w rfl rfl ?_
  refine Wp.pk 8 (pc' := 29) (lv' := [some (.int (((x0 - ((a_ush x0 1) &&& 1431655765)) &&& 858993459) + ((a_ush (x0 - ((a_ush x0 1) &&& 1431655765)) 2) &&& 858993459)))]) (st' := [.int ((((x0 - ((a_ush x0 1) &&& 1431655765)) &&& 858993459) + ((a_ush (x0 - ((a_ush x0 1) &&& 1431655765)) 2) &&& 858993459)) + (a_ush (((x0 - ((a_ush x0 1) &&& 1431655765)) &&& 858993459) + ((a_ush (x0 - ((a_ush x0 1) &&& 1431655765)) 2) &&& 858993459)) 4))]) rfl ?_
  refine Wp.ldc_w rfl rfl ?_
  refine Wp.pk 17 (pc' := 52) (lv' := [some (.int (((((((x0 - ((a_ush x0 1) &&& 1431655765)) &&& 858993459) + ((a_ush (x0 - ((a_ush x0 1) &&& 1431655765)) 2) &&& 858993459)) + (a_ush (((x0 - ((a_ush x0 1) &&& 1431655765)) &&& 858993459) + ((a_ush (x0 - ((a_ush x0 1) &&& 1431655765)) 2) &&& 858993459)) 4)) &&& 252645135) + (a_ush (((((x0 - ((a_ush x0 1) &&& 1431655765)) &&& 858993459) + ((a_ush (x0 - ((a_ush x0 1) &&& 1431655765)) 2) &&& 858993459)) + (a_ush (((x0 - ((a_ush x0 1) &&& 1431655765)) &&& 858993459) + ((a_ush (x0 - ((a_ush x0 1) &&& 1431655765)) 2) &&& 858993459)) 4)) &&& 252645135) 8)) + (a_ush ((((((x0 - ((a_ush x0 1) &&& 1431655765)) &&& 858993459) + ((a_ush (x0 - ((a_ush x0 1) &&& 1431655765)) 2) &&& 858993459)) + (a_ush (((x0 - ((a_ush x0 1) &&& 1431655765)) &&& 858993459) + ((a_ush (x0 - ((a_ush x0 1) &&& 1431655765)) 2) &&& 858993459)) 4)) &&& 252645135) + (a_ush (((((x0 - ((a_ush x0 1) &&& 1431655765)) &&& 858993459) + ((a_ush (x0 - ((a_ush x0 1) &&& 1431655765)) 2) &&& 858993459)) + (a_ush (((x0 - ((a_ush x0 1) &&& 1431655765)) &&& 858993459) + ((a_ush (x0 - ((a_ush x0 1) &&& 1431655765)) 2) &&& 858993459)) 4)) &&& 252645135) 8)) 16)))]) (st' := [.int ((((((((x0 - ((a_ush x0 1) &&& 1431655765)) &&& 858993459) + ((a_ush (x0 - ((a_ush x0 1) &&& 1431655765)) 2) &&& 858993459)) + (a_ush (((x0 - ((a_ush x0 1) &&& 1431655765)) &&& 858993459) + ((a_ush (x0 - ((a_ush x0 1) &&& 1431655765)) 2) &&& 858993459)) 4)) &&& 252645135) + (a_ush (((((x0 - ((a_ush x0 1) &&& 1431655765)) &&& 858993459) + ((a_ush (x0 - ((a_ush x0 1) &&& 1431655765)) 2) &&& 858993459)) + (a_ush (((x0 - ((a_ush x0 1) &&& 1431655765)) &&& 858993459) + ((a_ush (x0 - ((a_ush x0 1) &&& 1431655765)) 2) &&& 858993459)) 4)) &&& 252645135) 8)) + (a_ush ((((((x0 - ((a_ush x0 1) &&& 1431655765)) &&& 858993459) + ((a_ush (x0 - ((a_ush x0 1) &&& 1431655765)) 2) &&& 858993459)) + (a_ush (((x0 - ((a_ush x0 1) &&& 1431655765)) &&& 858993459) + ((a_ush (x0 - ((a_ush x0 1) &&& 1431655765)) 2) &&& 858993459)) 4)) &&& 252645135) + (a_ush (((((x0 - ((a_ush x0 1) &&& 1431655765)) &&& 858993459) + ((a_ush (x0 - ((a_ush x0 1) &&& 1431655765)) 2) &&& 858993459)) + (a_ush (((x0 - ((a_ush x0 1) &&& 1431655765)) &&& 858993459) + ((a_ush (x0 - ((a_ush x0 1) &&& 1431655765)) 2) &&& 858993459)) 4)) &&& 252645135) 8)) 16)) &&& 63)]) rfl ?_
  exact Wp.iret rfl rfl ⟨rfl, h⟩
end
