-- ===== PART A: goes FIRST, ahead of the names: the tables' words, and 'selects' of the private methods out of them =====
/-- a private method of a class that the tables say can be made, by its rows of tables_1 -/
def lw_okq (q : MethodName × Nat) : Prop := (q.1.cls ≠ "java/lang/invoke/MethodHandle" ∧ q.1.cls ≠ "java/lang/invoke/VarHandle") ∧ Cond.instantiable q.1.cls q.2 ∈ tables_1 ∧ Cond.privateMethod q.1 ∈ tables_1 ∧ Cond.instanceMethod q.1 ∈ tables_1
theorem lw_p0 : lw_okq (⟨"BentBranches$View", "setTerm", "(II)V"⟩, 9) := ⟨⟨by decide +kernel, by decide +kernel⟩, List.mem_of_getElem? (i := 74) (by decide +kernel), List.mem_of_getElem? (i := 341) (by decide +kernel), List.mem_of_getElem? (i := 342) (by decide +kernel)⟩
theorem lw_p1 : lw_okq (⟨"BentBranches$View", "termOf", "(II)I"⟩, 9) := ⟨⟨by decide +kernel, by decide +kernel⟩, List.mem_of_getElem? (i := 74) (by decide +kernel), List.mem_of_getElem? (i := 349) (by decide +kernel), List.mem_of_getElem? (i := 350) (by decide +kernel)⟩
theorem lw_p2 : lw_okq (⟨"BentBranches", "shapeAt", "(II)LBentBranches$Shape;"⟩, 10) := ⟨⟨by decide +kernel, by decide +kernel⟩, List.mem_of_getElem? (i := 20) (by decide +kernel), List.mem_of_getElem? (i := 402) (by decide +kernel), List.mem_of_getElem? (i := 403) (by decide +kernel)⟩
theorem lw_p3 : lw_okq (⟨"BentBranches$View", "partBy", "(I)Z"⟩, 9) := ⟨⟨by decide +kernel, by decide +kernel⟩, List.mem_of_getElem? (i := 74) (by decide +kernel), List.mem_of_getElem? (i := 484) (by decide +kernel), List.mem_of_getElem? (i := 485) (by decide +kernel)⟩
theorem lw_p4 : lw_okq (⟨"BentBranches$View", "clearTree", "()V"⟩, 9) := ⟨⟨by decide +kernel, by decide +kernel⟩, List.mem_of_getElem? (i := 74) (by decide +kernel), List.mem_of_getElem? (i := 512) (by decide +kernel), List.mem_of_getElem? (i := 513) (by decide +kernel)⟩
theorem lw_p5 : lw_okq (⟨"BentBranches$Tape", "readKey", "()I"⟩, 7) := ⟨⟨by decide +kernel, by decide +kernel⟩, List.mem_of_getElem? (i := 123) (by decide +kernel), List.mem_of_getElem? (i := 637) (by decide +kernel), List.mem_of_getElem? (i := 638) (by decide +kernel)⟩
theorem lw_p6 : lw_okq (⟨"BentBranches$Tape", "skipBlanks", "()V"⟩, 7) := ⟨⟨by decide +kernel, by decide +kernel⟩, List.mem_of_getElem? (i := 123) (by decide +kernel), List.mem_of_getElem? (i := 641) (by decide +kernel), List.mem_of_getElem? (i := 642) (by decide +kernel)⟩
theorem lw_p7 : lw_okq (⟨"BentBranches$Tape", "byteAt", "(I)I"⟩, 7) := ⟨⟨by decide +kernel, by decide +kernel⟩, List.mem_of_getElem? (i := 123) (by decide +kernel), List.mem_of_getElem? (i := 645) (by decide +kernel), List.mem_of_getElem? (i := 646) (by decide +kernel)⟩
theorem lw_p8 : lw_okq (⟨"BentBranches$Tape", "isWord", "(Ljava/lang/String;)Z"⟩, 7) := ⟨⟨by decide +kernel, by decide +kernel⟩, List.mem_of_getElem? (i := 123) (by decide +kernel), List.mem_of_getElem? (i := 652) (by decide +kernel), List.mem_of_getElem? (i := 653) (by decide +kernel)⟩
theorem lw_p9 : lw_okq (⟨"BentBranches$Tape", "nextOf", "(Ljava/lang/String;)I"⟩, 7) := ⟨⟨by decide +kernel, by decide +kernel⟩, List.mem_of_getElem? (i := 123) (by decide +kernel), List.mem_of_getElem? (i := 717) (by decide +kernel), List.mem_of_getElem? (i := 718) (by decide +kernel)⟩
theorem lw_p10 : lw_okq (⟨"BentBranches$Tape", "readNumber", "()Z"⟩, 7) := ⟨⟨by decide +kernel, by decide +kernel⟩, List.mem_of_getElem? (i := 123) (by decide +kernel), List.mem_of_getElem? (i := 779) (by decide +kernel), List.mem_of_getElem? (i := 780) (by decide +kernel)⟩
theorem lw_p11 : lw_okq (⟨"BentBranches$Tape", "write", "(I)V"⟩, 7) := ⟨⟨by decide +kernel, by decide +kernel⟩, List.mem_of_getElem? (i := 123) (by decide +kernel), List.mem_of_getElem? (i := 783) (by decide +kernel), List.mem_of_getElem? (i := 784) (by decide +kernel)⟩
theorem lw_p12 : lw_okq (⟨"BentBranches$Tape", "readName", "()Z"⟩, 7) := ⟨⟨by decide +kernel, by decide +kernel⟩, List.mem_of_getElem? (i := 123) (by decide +kernel), List.mem_of_getElem? (i := 787) (by decide +kernel), List.mem_of_getElem? (i := 788) (by decide +kernel)⟩
theorem lw_p13 : lw_okq (⟨"BentBranches", "sheetOf", "(I)LBentBranches$Row;"⟩, 10) := ⟨⟨by decide +kernel, by decide +kernel⟩, List.mem_of_getElem? (i := 20) (by decide +kernel), List.mem_of_getElem? (i := 859) (by decide +kernel), List.mem_of_getElem? (i := 860) (by decide +kernel)⟩
theorem lw_p14 : lw_okq (⟨"BentBranches", "slotOf", "(I)LBentBranches$Slot;"⟩, 10) := ⟨⟨by decide +kernel, by decide +kernel⟩, List.mem_of_getElem? (i := 20) (by decide +kernel), List.mem_of_getElem? (i := 907) (by decide +kernel), List.mem_of_getElem? (i := 908) (by decide +kernel)⟩
theorem lw_p15 : lw_okq (⟨"BentBranchesModel", "comes", "(I)I"⟩, 40) := ⟨⟨by decide +kernel, by decide +kernel⟩, List.mem_of_getElem? (i := 965) (by decide +kernel), List.mem_of_getElem? (i := 1103) (by decide +kernel), List.mem_of_getElem? (i := 1104) (by decide +kernel)⟩
def lw_privs_1 : List (MethodName × Nat) := [(⟨"BentBranches$View", "setTerm", "(II)V"⟩, 9), (⟨"BentBranches$View", "termOf", "(II)I"⟩, 9), (⟨"BentBranches", "shapeAt", "(II)LBentBranches$Shape;"⟩, 10), (⟨"BentBranches$View", "partBy", "(I)Z"⟩, 9), (⟨"BentBranches$View", "clearTree", "()V"⟩, 9), (⟨"BentBranches$Tape", "readKey", "()I"⟩, 7), (⟨"BentBranches$Tape", "skipBlanks", "()V"⟩, 7), (⟨"BentBranches$Tape", "byteAt", "(I)I"⟩, 7), (⟨"BentBranches$Tape", "isWord", "(Ljava/lang/String;)Z"⟩, 7), (⟨"BentBranches$Tape", "nextOf", "(Ljava/lang/String;)I"⟩, 7), (⟨"BentBranches$Tape", "readNumber", "()Z"⟩, 7), (⟨"BentBranches$Tape", "write", "(I)V"⟩, 7), (⟨"BentBranches$Tape", "readName", "()Z"⟩, 7), (⟨"BentBranches", "sheetOf", "(I)LBentBranches$Row;"⟩, 10), (⟨"BentBranches", "slotOf", "(I)LBentBranches$Slot;"⟩, 10), (⟨"BentBranchesModel", "comes", "(I)I"⟩, 40)]
theorem lw_r1 : ∀ q ∈ lw_privs_1, lw_okq q := List.forall_mem_cons.mpr ⟨lw_p0, List.forall_mem_cons.mpr ⟨lw_p1, List.forall_mem_cons.mpr ⟨lw_p2, List.forall_mem_cons.mpr ⟨lw_p3, List.forall_mem_cons.mpr ⟨lw_p4, List.forall_mem_cons.mpr ⟨lw_p5, List.forall_mem_cons.mpr ⟨lw_p6, List.forall_mem_cons.mpr ⟨lw_p7, List.forall_mem_cons.mpr ⟨lw_p8, List.forall_mem_cons.mpr ⟨lw_p9, List.forall_mem_cons.mpr ⟨lw_p10, List.forall_mem_cons.mpr ⟨lw_p11, List.forall_mem_cons.mpr ⟨lw_p12, List.forall_mem_cons.mpr ⟨lw_p13, List.forall_mem_cons.mpr ⟨lw_p14, List.forall_mem_cons.mpr ⟨lw_p15, fun _ h => absurd h List.not_mem_nil⟩⟩⟩⟩⟩⟩⟩⟩⟩⟩⟩⟩⟩⟩⟩⟩
theorem lw_p16 : lw_okq (⟨"BentBranchesModel", "isCurve", "(I)Z"⟩, 40) := ⟨⟨by decide +kernel, by decide +kernel⟩, List.mem_of_getElem? (i := 965) (by decide +kernel), List.mem_of_getElem? (i := 1111) (by decide +kernel), List.mem_of_getElem? (i := 1112) (by decide +kernel)⟩
theorem lw_p17 : lw_okq (⟨"BentBranchesModel", "termOf", "(III)I"⟩, 40) := ⟨⟨by decide +kernel, by decide +kernel⟩, List.mem_of_getElem? (i := 965) (by decide +kernel), List.mem_of_getElem? (i := 1125) (by decide +kernel), List.mem_of_getElem? (i := 1126) (by decide +kernel)⟩
theorem lw_p18 : lw_okq (⟨"BentBranchesModel", "kindOf", "(I)I"⟩, 40) := ⟨⟨by decide +kernel, by decide +kernel⟩, List.mem_of_getElem? (i := 965) (by decide +kernel), List.mem_of_getElem? (i := 1129) (by decide +kernel), List.mem_of_getElem? (i := 1130) (by decide +kernel)⟩
theorem lw_p19 : lw_okq (⟨"BentBranchesModel", "plain", "(III)I"⟩, 40) := ⟨⟨by decide +kernel, by decide +kernel⟩, List.mem_of_getElem? (i := 965) (by decide +kernel), List.mem_of_getElem? (i := 1133) (by decide +kernel), List.mem_of_getElem? (i := 1134) (by decide +kernel)⟩
theorem lw_p20 : lw_okq (⟨"BentBranchesModel", "counts", "(I)I"⟩, 40) := ⟨⟨by decide +kernel, by decide +kernel⟩, List.mem_of_getElem? (i := 965) (by decide +kernel), List.mem_of_getElem? (i := 1137) (by decide +kernel), List.mem_of_getElem? (i := 1138) (by decide +kernel)⟩
theorem lw_p21 : lw_okq (⟨"BentBranchesModel", "worksOut", "(I)I"⟩, 40) := ⟨⟨by decide +kernel, by decide +kernel⟩, List.mem_of_getElem? (i := 965) (by decide +kernel), List.mem_of_getElem? (i := 1141) (by decide +kernel), List.mem_of_getElem? (i := 1142) (by decide +kernel)⟩
theorem lw_p22 : lw_okq (⟨"BentBranchesModel", "worthOf", "(I)I"⟩, 40) := ⟨⟨by decide +kernel, by decide +kernel⟩, List.mem_of_getElem? (i := 965) (by decide +kernel), List.mem_of_getElem? (i := 1155) (by decide +kernel), List.mem_of_getElem? (i := 1156) (by decide +kernel)⟩
theorem lw_p23 : lw_okq (⟨"BentBranchesModel", "manyOf", "(I)I"⟩, 40) := ⟨⟨by decide +kernel, by decide +kernel⟩, List.mem_of_getElem? (i := 965) (by decide +kernel), List.mem_of_getElem? (i := 1159) (by decide +kernel), List.mem_of_getElem? (i := 1160) (by decide +kernel)⟩
theorem lw_p24 : lw_okq (⟨"BentBranchesModel", "findTerms", "(I)I"⟩, 40) := ⟨⟨by decide +kernel, by decide +kernel⟩, List.mem_of_getElem? (i := 965) (by decide +kernel), List.mem_of_getElem? (i := 1163) (by decide +kernel), List.mem_of_getElem? (i := 1164) (by decide +kernel)⟩
theorem lw_p25 : lw_okq (⟨"BentBranchesModel", "degreeNow", "()I"⟩, 40) := ⟨⟨by decide +kernel, by decide +kernel⟩, List.mem_of_getElem? (i := 965) (by decide +kernel), List.mem_of_getElem? (i := 1167) (by decide +kernel), List.mem_of_getElem? (i := 1168) (by decide +kernel)⟩
theorem lw_p26 : lw_okq (⟨"BentBranchesModel", "draw", "()I"⟩, 40) := ⟨⟨by decide +kernel, by decide +kernel⟩, List.mem_of_getElem? (i := 965) (by decide +kernel), List.mem_of_getElem? (i := 1191) (by decide +kernel), List.mem_of_getElem? (i := 1192) (by decide +kernel)⟩
theorem lw_p27 : lw_okq (⟨"BentBranchesModel", "findPlace", "(II)V"⟩, 40) := ⟨⟨by decide +kernel, by decide +kernel⟩, List.mem_of_getElem? (i := 965) (by decide +kernel), List.mem_of_getElem? (i := 1215) (by decide +kernel), List.mem_of_getElem? (i := 1216) (by decide +kernel)⟩
theorem lw_p28 : lw_okq (⟨"BentBranchesModel", "findShape", "(II)V"⟩, 40) := ⟨⟨by decide +kernel, by decide +kernel⟩, List.mem_of_getElem? (i := 965) (by decide +kernel), List.mem_of_getElem? (i := 1219) (by decide +kernel), List.mem_of_getElem? (i := 1220) (by decide +kernel)⟩
theorem lw_p29 : lw_okq (⟨"BentBranchesModel", "timesOf", "(I)I"⟩, 40) := ⟨⟨by decide +kernel, by decide +kernel⟩, List.mem_of_getElem? (i := 965) (by decide +kernel), List.mem_of_getElem? (i := 1226) (by decide +kernel), List.mem_of_getElem? (i := 1227) (by decide +kernel)⟩
theorem lw_p30 : lw_okq (⟨"BentBranchesModel", "lowestOf", "(III)J"⟩, 40) := ⟨⟨by decide +kernel, by decide +kernel⟩, List.mem_of_getElem? (i := 965) (by decide +kernel), List.mem_of_getElem? (i := 1241) (by decide +kernel), List.mem_of_getElem? (i := 1242) (by decide +kernel)⟩
theorem lw_p31 : lw_okq (⟨"BentBranchesModel", "isSlope", "(III)Z"⟩, 40) := ⟨⟨by decide +kernel, by decide +kernel⟩, List.mem_of_getElem? (i := 965) (by decide +kernel), List.mem_of_getElem? (i := 1251) (by decide +kernel), List.mem_of_getElem? (i := 1252) (by decide +kernel)⟩
def lw_privs_2 : List (MethodName × Nat) := [(⟨"BentBranchesModel", "isCurve", "(I)Z"⟩, 40), (⟨"BentBranchesModel", "termOf", "(III)I"⟩, 40), (⟨"BentBranchesModel", "kindOf", "(I)I"⟩, 40), (⟨"BentBranchesModel", "plain", "(III)I"⟩, 40), (⟨"BentBranchesModel", "counts", "(I)I"⟩, 40), (⟨"BentBranchesModel", "worksOut", "(I)I"⟩, 40), (⟨"BentBranchesModel", "worthOf", "(I)I"⟩, 40), (⟨"BentBranchesModel", "manyOf", "(I)I"⟩, 40), (⟨"BentBranchesModel", "findTerms", "(I)I"⟩, 40), (⟨"BentBranchesModel", "degreeNow", "()I"⟩, 40), (⟨"BentBranchesModel", "draw", "()I"⟩, 40), (⟨"BentBranchesModel", "findPlace", "(II)V"⟩, 40), (⟨"BentBranchesModel", "findShape", "(II)V"⟩, 40), (⟨"BentBranchesModel", "timesOf", "(I)I"⟩, 40), (⟨"BentBranchesModel", "lowestOf", "(III)J"⟩, 40), (⟨"BentBranchesModel", "isSlope", "(III)Z"⟩, 40)]
theorem lw_r2 : ∀ q ∈ lw_privs_2, lw_okq q := List.forall_mem_cons.mpr ⟨lw_p16, List.forall_mem_cons.mpr ⟨lw_p17, List.forall_mem_cons.mpr ⟨lw_p18, List.forall_mem_cons.mpr ⟨lw_p19, List.forall_mem_cons.mpr ⟨lw_p20, List.forall_mem_cons.mpr ⟨lw_p21, List.forall_mem_cons.mpr ⟨lw_p22, List.forall_mem_cons.mpr ⟨lw_p23, List.forall_mem_cons.mpr ⟨lw_p24, List.forall_mem_cons.mpr ⟨lw_p25, List.forall_mem_cons.mpr ⟨lw_p26, List.forall_mem_cons.mpr ⟨lw_p27, List.forall_mem_cons.mpr ⟨lw_p28, List.forall_mem_cons.mpr ⟨lw_p29, List.forall_mem_cons.mpr ⟨lw_p30, List.forall_mem_cons.mpr ⟨lw_p31, fun _ h => absurd h List.not_mem_nil⟩⟩⟩⟩⟩⟩⟩⟩⟩⟩⟩⟩⟩⟩⟩⟩
theorem lw_p32 : lw_okq (⟨"BentBranchesModel", "isRoot", "(III)Z"⟩, 40) := ⟨⟨by decide +kernel, by decide +kernel⟩, List.mem_of_getElem? (i := 965) (by decide +kernel), List.mem_of_getElem? (i := 1255) (by decide +kernel), List.mem_of_getElem? (i := 1256) (by decide +kernel)⟩
theorem lw_p33 : lw_okq (⟨"BentBranchesModel", "parts", "(I)Z"⟩, 40) := ⟨⟨by decide +kernel, by decide +kernel⟩, List.mem_of_getElem? (i := 965) (by decide +kernel), List.mem_of_getElem? (i := 1263) (by decide +kernel), List.mem_of_getElem? (i := 1264) (by decide +kernel)⟩
theorem lw_p34 : lw_okq (⟨"BentBranchesModel", "blows", "(IIII)V"⟩, 40) := ⟨⟨by decide +kernel, by decide +kernel⟩, List.mem_of_getElem? (i := 965) (by decide +kernel), List.mem_of_getElem? (i := 1271) (by decide +kernel), List.mem_of_getElem? (i := 1272) (by decide +kernel)⟩
theorem lw_p35 : lw_okq (⟨"BentBranchesModel", "findTree", "(I)V"⟩, 40) := ⟨⟨by decide +kernel, by decide +kernel⟩, List.mem_of_getElem? (i := 965) (by decide +kernel), List.mem_of_getElem? (i := 1279) (by decide +kernel), List.mem_of_getElem? (i := 1280) (by decide +kernel)⟩
theorem lw_p36 : lw_okq (⟨"BentBranchesModel", "cornerOf", "(I)I"⟩, 40) := ⟨⟨by decide +kernel, by decide +kernel⟩, List.mem_of_getElem? (i := 965) (by decide +kernel), List.mem_of_getElem? (i := 1287) (by decide +kernel), List.mem_of_getElem? (i := 1288) (by decide +kernel)⟩
theorem lw_p37 : lw_okq (⟨"BentBranchesModel", "go", "()V"⟩, 40) := ⟨⟨by decide +kernel, by decide +kernel⟩, List.mem_of_getElem? (i := 965) (by decide +kernel), List.mem_of_getElem? (i := 1331) (by decide +kernel), List.mem_of_getElem? (i := 1332) (by decide +kernel)⟩
theorem lw_p38 : lw_okq (⟨"BentBranchesModel", "isLetter", "(I)Z"⟩, 40) := ⟨⟨by decide +kernel, by decide +kernel⟩, List.mem_of_getElem? (i := 965) (by decide +kernel), List.mem_of_getElem? (i := 1335) (by decide +kernel), List.mem_of_getElem? (i := 1336) (by decide +kernel)⟩
theorem lw_p39 : lw_okq (⟨"BentBranchesModel", "isFigure", "(I)Z"⟩, 40) := ⟨⟨by decide +kernel, by decide +kernel⟩, List.mem_of_getElem? (i := 965) (by decide +kernel), List.mem_of_getElem? (i := 1339) (by decide +kernel), List.mem_of_getElem? (i := 1340) (by decide +kernel)⟩
theorem lw_p40 : lw_okq (⟨"BentBranchesModel", "takesKey", "()Z"⟩, 40) := ⟨⟨by decide +kernel, by decide +kernel⟩, List.mem_of_getElem? (i := 965) (by decide +kernel), List.mem_of_getElem? (i := 1343) (by decide +kernel), List.mem_of_getElem? (i := 1344) (by decide +kernel)⟩
theorem lw_p41 : lw_okq (⟨"BentBranchesModel", "takesE", "()Z"⟩, 40) := ⟨⟨by decide +kernel, by decide +kernel⟩, List.mem_of_getElem? (i := 965) (by decide +kernel), List.mem_of_getElem? (i := 1347) (by decide +kernel), List.mem_of_getElem? (i := 1348) (by decide +kernel)⟩
theorem lw_p42 : lw_okq (⟨"BentBranchesModel", "takesPart", "()Z"⟩, 40) := ⟨⟨by decide +kernel, by decide +kernel⟩, List.mem_of_getElem? (i := 965) (by decide +kernel), List.mem_of_getElem? (i := 1351) (by decide +kernel), List.mem_of_getElem? (i := 1352) (by decide +kernel)⟩
theorem lw_p43 : lw_okq (⟨"BentBranchesModel", "nameOf", "(I)I"⟩, 40) := ⟨⟨by decide +kernel, by decide +kernel⟩, List.mem_of_getElem? (i := 965) (by decide +kernel), List.mem_of_getElem? (i := 1355) (by decide +kernel), List.mem_of_getElem? (i := 1356) (by decide +kernel)⟩
theorem lw_p44 : lw_okq (⟨"BentBranchesModel", "settle", "(I)V"⟩, 40) := ⟨⟨by decide +kernel, by decide +kernel⟩, List.mem_of_getElem? (i := 965) (by decide +kernel), List.mem_of_getElem? (i := 1359) (by decide +kernel), List.mem_of_getElem? (i := 1360) (by decide +kernel)⟩
theorem lw_p45 : lw_okq (⟨"BentBranchesModel", "notsOpen", "()I"⟩, 40) := ⟨⟨by decide +kernel, by decide +kernel⟩, List.mem_of_getElem? (i := 965) (by decide +kernel), List.mem_of_getElem? (i := 1366) (by decide +kernel), List.mem_of_getElem? (i := 1367) (by decide +kernel)⟩
theorem lw_p46 : lw_okq (⟨"BentBranchesModel", "signHere", "()I"⟩, 40) := ⟨⟨by decide +kernel, by decide +kernel⟩, List.mem_of_getElem? (i := 965) (by decide +kernel), List.mem_of_getElem? (i := 1370) (by decide +kernel), List.mem_of_getElem? (i := 1371) (by decide +kernel)⟩
def lw_privs_3 : List (MethodName × Nat) := [(⟨"BentBranchesModel", "isRoot", "(III)Z"⟩, 40), (⟨"BentBranchesModel", "parts", "(I)Z"⟩, 40), (⟨"BentBranchesModel", "blows", "(IIII)V"⟩, 40), (⟨"BentBranchesModel", "findTree", "(I)V"⟩, 40), (⟨"BentBranchesModel", "cornerOf", "(I)I"⟩, 40), (⟨"BentBranchesModel", "go", "()V"⟩, 40), (⟨"BentBranchesModel", "isLetter", "(I)Z"⟩, 40), (⟨"BentBranchesModel", "isFigure", "(I)Z"⟩, 40), (⟨"BentBranchesModel", "takesKey", "()Z"⟩, 40), (⟨"BentBranchesModel", "takesE", "()Z"⟩, 40), (⟨"BentBranchesModel", "takesPart", "()Z"⟩, 40), (⟨"BentBranchesModel", "nameOf", "(I)I"⟩, 40), (⟨"BentBranchesModel", "settle", "(I)V"⟩, 40), (⟨"BentBranchesModel", "notsOpen", "()I"⟩, 40), (⟨"BentBranchesModel", "signHere", "()I"⟩, 40)]
theorem lw_r3 : ∀ q ∈ lw_privs_3, lw_okq q := List.forall_mem_cons.mpr ⟨lw_p32, List.forall_mem_cons.mpr ⟨lw_p33, List.forall_mem_cons.mpr ⟨lw_p34, List.forall_mem_cons.mpr ⟨lw_p35, List.forall_mem_cons.mpr ⟨lw_p36, List.forall_mem_cons.mpr ⟨lw_p37, List.forall_mem_cons.mpr ⟨lw_p38, List.forall_mem_cons.mpr ⟨lw_p39, List.forall_mem_cons.mpr ⟨lw_p40, List.forall_mem_cons.mpr ⟨lw_p41, List.forall_mem_cons.mpr ⟨lw_p42, List.forall_mem_cons.mpr ⟨lw_p43, List.forall_mem_cons.mpr ⟨lw_p44, List.forall_mem_cons.mpr ⟨lw_p45, List.forall_mem_cons.mpr ⟨lw_p46, fun _ h => absurd h List.not_mem_nil⟩⟩⟩⟩⟩⟩⟩⟩⟩⟩⟩⟩⟩⟩⟩
def lw_privs : List (MethodName × Nat) := lw_privs_1 ++ (lw_privs_2 ++ (lw_privs_3))
def lw_tbl : List Cond := k2_sels lw_privs ++ tables_1
theorem lw_privs_ok : ∀ q ∈ lw_privs, lw_okq q := by
  show ∀ q ∈ lw_privs_1 ++ (lw_privs_2 ++ (lw_privs_3)), lw_okq q
  exact List.forall_mem_append.mpr ⟨lw_r1, List.forall_mem_append.mpr ⟨lw_r2, lw_r3⟩⟩
/-! ===== BEGIN words of one list among another's, by their places ===== -/
/-! ===== END ===== -/

/-! ===== BEGIN printed: names, fields, word lists, decode rows ===== -/
def RX0 : String := "BentBranches$Curve"
def TX0 : u_T := fun k => match k with
  | 0 => ("BentBranches$Curve", "kind", "I", false)
  | _ => ("BentBranches$Curve", "numbers", "[I", true)
def tyX0 : Nat → FieldType := fun k => match k with
  | 0 => .int
  | _ => .array .int
abbrev wsX00 : List Cond := u_ws RX0 TX0 2
theorem nmX0 : ∀ a, a < 2 → ∀ b, b < 2 → a ≠ b → (TX0 a).2.1 ≠ (TX0 b).2.1 := by decide +kernel
theorem tyX0_ok : ∀ k, k < 2 → parseFieldDescriptor (TX0 k).2.2.1 = some (tyX0 k) := by decide +kernel
abbrev cX0_init : ByteArray := prog_2_method_1_code
def yX0_init : MethodName := ⟨RX0, "<init>", "()V"⟩
abbrev cX0_numberAt : ByteArray := prog_2_method_2_code
def yX0_numberAt : MethodName := ⟨RX0, "numberAt", "(I)I"⟩
abbrev cX0_number : ByteArray := prog_2_method_3_code
def yX0_number : MethodName := ⟨RX0, "number", "(II)I"⟩
abbrev cX0_setNumber : ByteArray := prog_2_method_4_code
def yX0_setNumber : MethodName := ⟨RX0, "setNumber", "(II)V"⟩
abbrev cX0_becomesZero : ByteArray := prog_2_method_5_code
def yX0_becomesZero : MethodName := ⟨RX0, "becomesZero", "(I)V"⟩
abbrev cX0_becomes : ByteArray := prog_2_method_6_code
def yX0_becomes : MethodName := ⟨RX0, "becomes", "(LBentBranches$Curve;)V"⟩
abbrev cX0_notZero : ByteArray := prog_2_method_7_code
def yX0_notZero : MethodName := ⟨RX0, "notZero", "()I"⟩
abbrev cX0_isOf : ByteArray := prog_2_method_8_code
def yX0_isOf : MethodName := ⟨RX0, "isOf", "(I)Z"⟩
abbrev cX0_worth : ByteArray := prog_2_method_9_code
def yX0_worth : MethodName := ⟨RX0, "worth", "()I"⟩
abbrev cX0_factor : ByteArray := prog_2_method_10_code
def yX0_factor : MethodName := ⟨RX0, "factor", "(II)I"⟩
def RX1 : String := "BentBranches$Law"
def TX1 : u_T := fun k => match k with
  | 0 => ("BentBranches$Law", "key", "I", true)
  | 1 => ("BentBranches$Law", "leaves", "I", true)
  | _ => ("BentBranches$Law", "code", "[I", true)
def tyX1 : Nat → FieldType := fun k => match k with
  | 0 => .int
  | 1 => .int
  | _ => .array .int
abbrev wsX10 : List Cond := u_ws RX1 TX1 3
theorem nmX1 : ∀ a, a < 3 → ∀ b, b < 3 → a ≠ b → (TX1 a).2.1 ≠ (TX1 b).2.1 := by decide +kernel
theorem tyX1_ok : ∀ k, k < 3 → parseFieldDescriptor (TX1 k).2.2.1 = some (tyX1 k) := by decide +kernel
abbrev cX1_init : ByteArray := prog_3_method_1_code
def yX1_init : MethodName := ⟨RX1, "<init>", "(II[I)V"⟩
abbrev cX1_gives : ByteArray := prog_3_method_2_code
def yX1_gives : MethodName := ⟨RX1, "gives", "(III[I)I"⟩
abbrev cX1_joined : ByteArray := prog_3_method_3_code
def yX1_joined : MethodName := ⟨RX1, "joined", "(III)I"⟩
def RX2 : String := "BentBranches$Row"
def TX2 : u_T := fun k => match k with
  | 0 => ("BentBranches$Row", "sort", "I", false)
  | 1 => ("BentBranches$Row", "size", "I", false)
  | _ => ("BentBranches$Row", "places", "[I", true)
def tyX2 : Nat → FieldType := fun k => match k with
  | 0 => .int
  | 1 => .int
  | _ => .array .int
abbrev wsX20 : List Cond := u_ws RX2 TX2 3
theorem nmX2 : ∀ a, a < 3 → ∀ b, b < 3 → a ≠ b → (TX2 a).2.1 ≠ (TX2 b).2.1 := by decide +kernel
theorem tyX2_ok : ∀ k, k < 3 → parseFieldDescriptor (TX2 k).2.2.1 = some (tyX2 k) := by decide +kernel
abbrev cX2_init : ByteArray := prog_4_method_1_code
def yX2_init : MethodName := ⟨RX2, "<init>", "()V"⟩
abbrev cX2_becomesEmpty : ByteArray := prog_4_method_2_code
def yX2_becomesEmpty : MethodName := ⟨RX2, "becomesEmpty", "(II)V"⟩
abbrev cX2_becomes : ByteArray := prog_4_method_3_code
def yX2_becomes : MethodName := ⟨RX2, "becomes", "(LBentBranches$Row;)V"⟩
abbrev cX2_hasPlace : ByteArray := prog_4_method_4_code
def yX2_hasPlace : MethodName := ⟨RX2, "hasPlace", "(I)Z"⟩
abbrev cX2_hasRun : ByteArray := prog_4_method_5_code
def yX2_hasRun : MethodName := ⟨RX2, "hasRun", "(II)Z"⟩
abbrev cX2_placeAt : ByteArray := prog_4_method_6_code
def yX2_placeAt : MethodName := ⟨RX2, "placeAt", "(I)I"⟩
abbrev cX2_setPlace : ByteArray := prog_4_method_7_code
def yX2_setPlace : MethodName := ⟨RX2, "setPlace", "(II)V"⟩
def RX3 : String := "BentBranches$Shape"
def TX3 : u_T := fun k => match k with
  | _ => ("BentBranches$Shape", "numbers", "[J", true)
def tyX3 : Nat → FieldType := fun k => match k with
  | _ => .array .long
abbrev wsX30 : List Cond := u_ws RX3 TX3 1
theorem nmX3 : ∀ a, a < 1 → ∀ b, b < 1 → a ≠ b → (TX3 a).2.1 ≠ (TX3 b).2.1 := by decide +kernel
theorem tyX3_ok : ∀ k, k < 1 → parseFieldDescriptor (TX3 k).2.2.1 = some (tyX3 k) := by decide +kernel
abbrev cX3_init : ByteArray := prog_5_method_1_code
def yX3_init : MethodName := ⟨RX3, "<init>", "()V"⟩
abbrev cX3_has : ByteArray := prog_5_method_2_code
def yX3_has : MethodName := ⟨RX3, "has", "(II)Z"⟩
abbrev cX3_branches : ByteArray := prog_5_method_3_code
def yX3_branches : MethodName := ⟨RX3, "branches", "(I)Z"⟩
abbrev cX3_number : ByteArray := prog_5_method_4_code
def yX3_number : MethodName := ⟨RX3, "number", "(II)J"⟩
abbrev cX3_add : ByteArray := prog_5_method_5_code
def yX3_add : MethodName := ⟨RX3, "add", "(IIJ)V"⟩
abbrev cX3_clear : ByteArray := prog_5_method_6_code
def yX3_clear : MethodName := ⟨RX3, "clear", "()V"⟩
abbrev cX3_moveX : ByteArray := prog_5_method_7_code
def yX3_moveX : MethodName := ⟨RX3, "moveX", "(I)V"⟩
abbrev cX3_moveY : ByteArray := prog_5_method_8_code
def yX3_moveY : MethodName := ⟨RX3, "moveY", "(II)V"⟩
abbrev cX3_least : ByteArray := prog_5_method_9_code
def yX3_least : MethodName := ⟨RX3, "least", "()I"⟩
abbrev cX3_lowestOf : ByteArray := prog_5_method_10_code
def yX3_lowestOf : MethodName := ⟨RX3, "lowestOf", "(II)J"⟩
abbrev cX3_sumOnLine : ByteArray := prog_5_method_11_code
def yX3_sumOnLine : MethodName := ⟨RX3, "sumOnLine", "(II)J"⟩
abbrev cX3_blowInto : ByteArray := prog_5_method_12_code
def yX3_blowInto : MethodName := ⟨RX3, "blowInto", "(LBentBranches$Shape;II)V"⟩
abbrev cX3_leastX : ByteArray := prog_5_method_13_code
def yX3_leastX : MethodName := ⟨RX3, "leastX", "(I)I"⟩
abbrev cX3_firstCorner : ByteArray := prog_5_method_14_code
def yX3_firstCorner : MethodName := ⟨RX3, "firstCorner", "()I"⟩
abbrev cX3_steepestFrom : ByteArray := prog_5_method_15_code
def yX3_steepestFrom : MethodName := ⟨RX3, "steepestFrom", "(I)I"⟩
abbrev cX3_holdsTo : ByteArray := prog_5_method_16_code
def yX3_holdsTo : MethodName := ⟨RX3, "holdsTo", "(I)I"⟩
abbrev cX3_holdsToUpright : ByteArray := prog_5_method_17_code
def yX3_holdsToUpright : MethodName := ⟨RX3, "holdsToUpright", "()I"⟩
def RX4 : String := "BentBranches$Slot"
def TX4 : u_T := fun k => match k with
  | 0 => ("BentBranches$Slot", "thing", "I", false)
  | 1 => ("BentBranches$Slot", "number", "I", false)
  | 2 => ("BentBranches$Slot", "curve", "LBentBranches$Curve;", true)
  | _ => ("BentBranches$Slot", "row", "LBentBranches$Row;", true)
def tyX4 : Nat → FieldType := fun k => match k with
  | 0 => .int
  | 1 => .int
  | 2 => .object "BentBranches$Curve"
  | _ => .object "BentBranches$Row"
abbrev wsX40 : List Cond := u_ws RX4 TX4 4
theorem nmX4 : ∀ a, a < 4 → ∀ b, b < 4 → a ≠ b → (TX4 a).2.1 ≠ (TX4 b).2.1 := by decide +kernel
theorem tyX4_ok : ∀ k, k < 4 → parseFieldDescriptor (TX4 k).2.2.1 = some (tyX4 k) := by decide +kernel
abbrev cX4_init : ByteArray := prog_6_method_1_code
def yX4_init : MethodName := ⟨RX4, "<init>", "()V"⟩
def RX5 : String := "BentBranches$Tape"
def TX5 : u_T := fun k => match k with
  | 0 => ("BentBranches$Tape", "length", "I", false)
  | 1 => ("BentBranches$Tape", "bytes", "[I", true)
  | 2 => ("BentBranches$Tape", "code", "[I", true)
  | 3 => ("BentBranches$Tape", "steps", "I", false)
  | 4 => ("BentBranches$Tape", "at", "I", false)
  | 5 => ("BentBranches$Tape", "key", "I", false)
  | _ => ("BentBranches$Tape", "leaves", "I", false)
def tyX5 : Nat → FieldType := fun k => match k with
  | 0 => .int
  | 1 => .array .int
  | 2 => .array .int
  | 3 => .int
  | 4 => .int
  | 5 => .int
  | _ => .int
abbrev wsX50 : List Cond := u_ws RX5 TX5 7
theorem nmX5 : ∀ a, a < 7 → ∀ b, b < 7 → a ≠ b → (TX5 a).2.1 ≠ (TX5 b).2.1 := by decide +kernel
theorem tyX5_ok : ∀ k, k < 7 → parseFieldDescriptor (TX5 k).2.2.1 = some (tyX5 k) := by decide +kernel
abbrev cX5_init : ByteArray := prog_7_method_1_code
def yX5_init : MethodName := ⟨RX5, "<init>", "()V"⟩
abbrev cX5_addNumber : ByteArray := prog_7_method_2_code
def yX5_addNumber : MethodName := ⟨RX5, "addNumber", "(I)V"⟩
abbrev cX5_read : ByteArray := prog_7_method_3_code
def yX5_read : MethodName := ⟨RX5, "read", "()I"⟩
abbrev cX5_law : ByteArray := prog_7_method_4_code
def yX5_law : MethodName := ⟨RX5, "law", "()LBentBranches$Law;"⟩
abbrev cX5_byteAt : ByteArray := prog_7_method_5_code
def yX5_byteAt : MethodName := ⟨RX5, "byteAt", "(I)I"⟩
abbrev cX5_isDigit : ByteArray := prog_7_method_6_code
def yX5_isDigit : MethodName := ⟨RX5, "isDigit", "(I)Z"⟩
abbrev cX5_isLetter : ByteArray := prog_7_method_7_code
def yX5_isLetter : MethodName := ⟨RX5, "isLetter", "(I)Z"⟩
abbrev cX5_skipBlanks : ByteArray := prog_7_method_8_code
def yX5_skipBlanks : MethodName := ⟨RX5, "skipBlanks", "()V"⟩
abbrev cX5_write : ByteArray := prog_7_method_9_code
def yX5_write : MethodName := ⟨RX5, "write", "(I)V"⟩
abbrev cX5_readKey : ByteArray := prog_7_method_10_code
def yX5_readKey : MethodName := ⟨RX5, "readKey", "()I"⟩
abbrev cX5_isWord : ByteArray := prog_7_method_11_code
def yX5_isWord : MethodName := ⟨RX5, "isWord", "(Ljava/lang/String;)Z"⟩
abbrev cX5_nextOf : ByteArray := prog_7_method_12_code
def yX5_nextOf : MethodName := ⟨RX5, "nextOf", "(Ljava/lang/String;)I"⟩
abbrev cX5_signsOf : ByteArray := prog_7_method_13_code
def yX5_signsOf : MethodName := ⟨RX5, "signsOf", "(I)Ljava/lang/String;"⟩
abbrev cX5_readLevel : ByteArray := prog_7_method_14_code
def yX5_readLevel : MethodName := ⟨RX5, "readLevel", "(LBentBranches$Tape;III)Z"⟩
abbrev cX5_readPiece : ByteArray := prog_7_method_15_code
def yX5_readPiece : MethodName := ⟨RX5, "readPiece", "(LBentBranches$Tape;II)Z"⟩
abbrev cX5_readInner : ByteArray := prog_7_method_16_code
def yX5_readInner : MethodName := ⟨RX5, "readInner", "(LBentBranches$Tape;II)Z"⟩
abbrev cX5_readNumber : ByteArray := prog_7_method_17_code
def yX5_readNumber : MethodName := ⟨RX5, "readNumber", "()Z"⟩
abbrev cX5_readName : ByteArray := prog_7_method_18_code
def yX5_readName : MethodName := ⟨RX5, "readName", "()Z"⟩
def RX6 : String := "BentBranches$View"
def TX6 : u_T := fun k => match k with
  | 0 => ("BentBranches$View", "treeShapes", "I", false)
  | 1 => ("BentBranches$View", "treeBelongs", "I", false)
  | 2 => ("BentBranches$View", "treeEnds", "I", false)
  | 3 => ("BentBranches$View", "world", "LBentBranches$World;", true)
  | 4 => ("BentBranches$View", "terms", "[I", true)
  | 5 => ("BentBranches$View", "times", "[I", true)
  | 6 => ("BentBranches$View", "earlier", "[I", true)
  | 7 => ("BentBranches$View", "shapes", "[LBentBranches$Shape;", true)
  | _ => ("BentBranches$View", "powers", "[J", true)
def tyX6 : Nat → FieldType := fun k => match k with
  | 0 => .int
  | 1 => .int
  | 2 => .int
  | 3 => .object "BentBranches$World"
  | 4 => .array .int
  | 5 => .array .int
  | 6 => .array .int
  | 7 => .array (.object "BentBranches$Shape")
  | _ => .array .long
abbrev wsX60 : List Cond := u_ws RX6 TX6 9
theorem nmX6 : ∀ a, a < 9 → ∀ b, b < 9 → a ≠ b → (TX6 a).2.1 ≠ (TX6 b).2.1 := by decide +kernel
theorem tyX6_ok : ∀ k, k < 9 → parseFieldDescriptor (TX6 k).2.2.1 = some (tyX6 k) := by decide +kernel
abbrev cX6_init : ByteArray := prog_8_method_1_code
def yX6_init : MethodName := ⟨RX6, "<init>", "(LBentBranches$World;)V"⟩
abbrev cX6_look : ByteArray := prog_8_method_2_code
def yX6_look : MethodName := ⟨RX6, "look", "(LBentBranches$Curve;)V"⟩
abbrev cX6_setTerm : ByteArray := prog_8_method_3_code
def yX6_setTerm : MethodName := ⟨RX6, "setTerm", "(II)V"⟩
abbrev cX6_termOf : ByteArray := prog_8_method_4_code
def yX6_termOf : MethodName := ⟨RX6, "termOf", "(II)I"⟩
abbrev cX6_degree : ByteArray := prog_8_method_5_code
def yX6_degree : MethodName := ⟨RX6, "degree", "()I"⟩
abbrev cX6_termsNotZero : ByteArray := prog_8_method_6_code
def yX6_termsNotZero : MethodName := ⟨RX6, "termsNotZero", "()I"⟩
abbrev cX6_valueAt : ByteArray := prog_8_method_7_code
def yX6_valueAt : MethodName := ⟨RX6, "valueAt", "(II)J"⟩
abbrev cX6_stand : ByteArray := prog_8_method_8_code
def yX6_stand : MethodName := ⟨RX6, "stand", "(II)LBentBranches$Shape;"⟩
abbrev cX6_slopeBits : ByteArray := prog_8_method_9_code
def yX6_slopeBits : MethodName := ⟨RX6, "slopeBits", "(LBentBranches$Shape;I)I"⟩
abbrev cX6_oftenOf : ByteArray := prog_8_method_10_code
def yX6_oftenOf : MethodName := ⟨RX6, "oftenOf", "(LBentBranches$Shape;II)I"⟩
abbrev cX6_partBy : ByteArray := prog_8_method_11_code
def yX6_partBy : MethodName := ⟨RX6, "partBy", "(I)Z"⟩
abbrev cX6_blow : ByteArray := prog_8_method_12_code
def yX6_blow : MethodName := ⟨RX6, "blow", "(II)LBentBranches$Shape;"⟩
abbrev cX6_growTree : ByteArray := prog_8_method_13_code
def yX6_growTree : MethodName := ⟨RX6, "growTree", "(I)V"⟩
abbrev cX6_clearTree : ByteArray := prog_8_method_14_code
def yX6_clearTree : MethodName := ⟨RX6, "clearTree", "()V"⟩
abbrev cX6_grow : ByteArray := prog_8_method_15_code
def yX6_grow : MethodName := ⟨RX6, "grow", "(LBentBranches$View;II)Z"⟩
abbrev cX6_walk : ByteArray := prog_8_method_16_code
def yX6_walk : MethodName := ⟨RX6, "walk", "(LBentBranches$Curve;)V"⟩
abbrev cX6_placesWith : ByteArray := prog_8_method_17_code
def yX6_placesWith : MethodName := ⟨RX6, "placesWith", "(I)I"⟩
abbrev cX6_setAside : ByteArray := prog_8_method_18_code
def yX6_setAside : MethodName := ⟨RX6, "setAside", "()V"⟩
abbrev cX6_placesOnBoth : ByteArray := prog_8_method_19_code
def yX6_placesOnBoth : MethodName := ⟨RX6, "placesOnBoth", "()I"⟩
abbrev cX6_placeOn : ByteArray := prog_8_method_20_code
def yX6_placeOn : MethodName := ⟨RX6, "placeOn", "(I)I"⟩
abbrev cX6_toldPlace : ByteArray := prog_8_method_21_code
def yX6_toldPlace : MethodName := ⟨RX6, "toldPlace", "(I)I"⟩
abbrev cX6_sumOfMarks : ByteArray := prog_8_method_22_code
def yX6_sumOfMarks : MethodName := ⟨RX6, "sumOfMarks", "()I"⟩
abbrev cX6_belongsOfKnots : ByteArray := prog_8_method_23_code
def yX6_belongsOfKnots : MethodName := ⟨RX6, "belongsOfKnots", "()I"⟩
abbrev cX6_compareTold : ByteArray := prog_8_method_24_code
def yX6_compareTold : MethodName := ⟨RX6, "compareTold", "([III)I"⟩
abbrev cX6_stands : ByteArray := prog_8_method_25_code
def yX6_stands : MethodName := ⟨RX6, "stands", "([IIII)Z"⟩
def RX7 : String := "BentBranches$World"
def TX7 : u_T := fun k => match k with
  | 0 => ("BentBranches$World", "curveCount", "I", false)
  | 1 => ("BentBranches$World", "lawCount", "I", false)
  | 2 => ("BentBranches$World", "z", "I", false)
  | 3 => ("BentBranches$World", "curves", "[LBentBranches$Curve;", true)
  | 4 => ("BentBranches$World", "laws", "[LBentBranches$Law;", true)
  | _ => ("BentBranches$World", "stack", "[I", true)
def tyX7 : Nat → FieldType := fun k => match k with
  | 0 => .int
  | 1 => .int
  | 2 => .int
  | 3 => .array (.object "BentBranches$Curve")
  | 4 => .array (.object "BentBranches$Law")
  | _ => .array .int
abbrev wsX70 : List Cond := u_ws RX7 TX7 6
theorem nmX7 : ∀ a, a < 6 → ∀ b, b < 6 → a ≠ b → (TX7 a).2.1 ≠ (TX7 b).2.1 := by decide +kernel
theorem tyX7_ok : ∀ k, k < 6 → parseFieldDescriptor (TX7 k).2.2.1 = some (tyX7 k) := by decide +kernel
abbrev cX7_init : ByteArray := prog_9_method_1_code
def yX7_init : MethodName := ⟨RX7, "<init>", "()V"⟩
abbrev cX7_becomes : ByteArray := prog_9_method_2_code
def yX7_becomes : MethodName := ⟨RX7, "becomes", "(LBentBranches$World;)V"⟩
abbrev cX7_curveOf : ByteArray := prog_9_method_3_code
def yX7_curveOf : MethodName := ⟨RX7, "curveOf", "(I)LBentBranches$Curve;"⟩
abbrev cX7_addCurve : ByteArray := prog_9_method_4_code
def yX7_addCurve : MethodName := ⟨RX7, "addCurve", "(I)LBentBranches$Curve;"⟩
abbrev cX7_drawNumbers : ByteArray := prog_9_method_5_code
def yX7_drawNumbers : MethodName := ⟨RX7, "drawNumbers", "(LBentBranches$Curve;)V"⟩
abbrev cX7_lawAt : ByteArray := prog_9_method_6_code
def yX7_lawAt : MethodName := ⟨RX7, "lawAt", "(I)LBentBranches$Law;"⟩
abbrev cX7_lastLawOf : ByteArray := prog_9_method_7_code
def yX7_lastLawOf : MethodName := ⟨RX7, "lastLawOf", "(I)I"⟩
abbrev cX7_addLaw : ByteArray := prog_9_method_8_code
def yX7_addLaw : MethodName := ⟨RX7, "addLaw", "(LBentBranches$Law;)I"⟩
abbrev cX7_lawGives : ByteArray := prog_9_method_9_code
def yX7_lawGives : MethodName := ⟨RX7, "lawGives", "(IIIII)I"⟩
abbrev cX7_termAt : ByteArray := prog_9_method_10_code
def yX7_termAt : MethodName := ⟨RX7, "termAt", "(LBentBranches$Curve;II)I"⟩
def RX8 : String := "BentBranches"
def TX8 : u_T := fun k => match k with
  | 0 => ("BentBranches", "now", "LBentBranches$World;", true)
  | 1 => ("BentBranches", "image", "LBentBranches$World;", true)
  | 2 => ("BentBranches", "view", "LBentBranches$View;", true)
  | 3 => ("BentBranches", "imageView", "LBentBranches$View;", true)
  | 4 => ("BentBranches", "tape", "LBentBranches$Tape;", true)
  | 5 => ("BentBranches", "sheets", "[LBentBranches$Row;", true)
  | 6 => ("BentBranches", "slots", "[LBentBranches$Slot;", true)
  | 7 => ("BentBranches", "waiting", "[I", true)
  | 8 => ("BentBranches", "waitingCount", "I", false)
  | _ => ("BentBranches", "imageKept", "Z", false)
def tyX8 : Nat → FieldType := fun k => match k with
  | 0 => .object "BentBranches$World"
  | 1 => .object "BentBranches$World"
  | 2 => .object "BentBranches$View"
  | 3 => .object "BentBranches$View"
  | 4 => .object "BentBranches$Tape"
  | 5 => .array (.object "BentBranches$Row")
  | 6 => .array (.object "BentBranches$Slot")
  | 7 => .array .int
  | 8 => .int
  | _ => .boolean
abbrev wsX80 : List Cond := u_ws RX8 TX8 10
theorem nmX8 : ∀ a, a < 10 → ∀ b, b < 10 → a ≠ b → (TX8 a).2.1 ≠ (TX8 b).2.1 := by decide +kernel
theorem tyX8_ok : ∀ k, k < 10 → parseFieldDescriptor (TX8 k).2.2.1 = some (tyX8 k) := by decide +kernel
abbrev cX8_init : ByteArray := prog_1_method_1_code
def yX8_init : MethodName := ⟨RX8, "<init>", "()V"⟩
abbrev cX8_curve : ByteArray := prog_1_method_2_code
def yX8_curve : MethodName := ⟨RX8, "curve", "(I)I"⟩
abbrev cX8_put : ByteArray := prog_1_method_3_code
def yX8_put : MethodName := ⟨RX8, "put", "(III)I"⟩
abbrev cX8_term : ByteArray := prog_1_method_4_code
def yX8_term : MethodName := ⟨RX8, "term", "(III)I"⟩
abbrev cX8_told : ByteArray := prog_1_method_5_code
def yX8_told : MethodName := ⟨RX8, "told", "(II)I"⟩
abbrev cX8_as : ByteArray := prog_1_method_6_code
def yX8_as : MethodName := ⟨RX8, "as", "(II)I"⟩
abbrev cX8_turns : ByteArray := prog_1_method_7_code
def yX8_turns : MethodName := ⟨RX8, "turns", "(II)I"⟩
abbrev cX8_mix : ByteArray := prog_1_method_8_code
def yX8_mix : MethodName := ⟨RX8, "mix", "(IIII)I"⟩
abbrev cX8_deal : ByteArray := prog_1_method_9_code
def yX8_deal : MethodName := ⟨RX8, "deal", "(I)I"⟩
abbrev cX8_seed : ByteArray := prog_1_method_10_code
def yX8_seed : MethodName := ⟨RX8, "seed", "(I)I"⟩
abbrev cX8_value : ByteArray := prog_1_method_11_code
def yX8_value : MethodName := ⟨RX8, "value", "(III)J"⟩
abbrev cX8_times : ByteArray := prog_1_method_12_code
def yX8_times : MethodName := ⟨RX8, "times", "(II)I"⟩
abbrev cX8_shape : ByteArray := prog_1_method_13_code
def yX8_shape : MethodName := ⟨RX8, "shape", "(III)J"⟩
abbrev cX8_lowest : ByteArray := prog_1_method_14_code
def yX8_lowest : MethodName := ⟨RX8, "lowest", "(III)J"⟩
abbrev cX8_slopes : ByteArray := prog_1_method_15_code
def yX8_slopes : MethodName := ⟨RX8, "slopes", "(II)I"⟩
abbrev cX8_often : ByteArray := prog_1_method_16_code
def yX8_often : MethodName := ⟨RX8, "often", "(III)I"⟩
abbrev cX8_blown : ByteArray := prog_1_method_17_code
def yX8_blown : MethodName := ⟨RX8, "blown", "(IIII)I"⟩
abbrev cX8_tree : ByteArray := prog_1_method_18_code
def yX8_tree : MethodName := ⟨RX8, "tree", "(IIII)I"⟩
abbrev cX8_corner : ByteArray := prog_1_method_19_code
def yX8_corner : MethodName := ⟨RX8, "corner", "(III)I"⟩
abbrev cX8_power : ByteArray := prog_1_method_20_code
def yX8_power : MethodName := ⟨RX8, "power", "(III)I"⟩
abbrev cX8_line : ByteArray := prog_1_method_21_code
def yX8_line : MethodName := ⟨RX8, "line", "(III)I"⟩
abbrev cX8_all : ByteArray := prog_1_method_22_code
def yX8_all : MethodName := ⟨RX8, "all", "(II)I"⟩
abbrev cX8_on : ByteArray := prog_1_method_23_code
def yX8_on : MethodName := ⟨RX8, "on", "(II)I"⟩
abbrev cX8_genus : ByteArray := prog_1_method_24_code
def yX8_genus : MethodName := ⟨RX8, "genus", "(I)I"⟩
abbrev cX8_both : ByteArray := prog_1_method_25_code
def yX8_both : MethodName := ⟨RX8, "both", "(II)I"⟩
abbrev cX8_feed : ByteArray := prog_1_method_26_code
def yX8_feed : MethodName := ⟨RX8, "feed", "(III)I"⟩
abbrev cX8_trim : ByteArray := prog_1_method_27_code
def yX8_trim : MethodName := ⟨RX8, "trim", "(I)I"⟩
abbrev cX8_text : ByteArray := prog_1_method_28_code
def yX8_text : MethodName := ⟨RX8, "text", "()I"⟩
abbrev cX8_textTold : ByteArray := prog_1_method_29_code
def yX8_textTold : MethodName := ⟨RX8, "textTold", "(II)I"⟩
abbrev cX8_why : ByteArray := prog_1_method_30_code
def yX8_why : MethodName := ⟨RX8, "why", "(I)I"⟩
abbrev cX8_sheet : ByteArray := prog_1_method_31_code
def yX8_sheet : MethodName := ⟨RX8, "sheet", "(III)I"⟩
abbrev cX8_mark : ByteArray := prog_1_method_32_code
def yX8_mark : MethodName := ⟨RX8, "mark", "(III)I"⟩
abbrev cX8_pour : ByteArray := prog_1_method_33_code
def yX8_pour : MethodName := ⟨RX8, "pour", "(II)I"⟩
abbrev cX8_copy : ByteArray := prog_1_method_34_code
def yX8_copy : MethodName := ⟨RX8, "copy", "(IIIII)I"⟩
abbrev cX8_lay : ByteArray := prog_1_method_35_code
def yX8_lay : MethodName := ⟨RX8, "lay", "(III)I"⟩
abbrev cX8_ask : ByteArray := prog_1_method_36_code
def yX8_ask : MethodName := ⟨RX8, "ask", "(II)I"⟩
abbrev cX8_item : ByteArray := prog_1_method_37_code
def yX8_item : MethodName := ⟨RX8, "item", "(II)I"⟩
abbrev cX8_rest : ByteArray := prog_1_method_38_code
def yX8_rest : MethodName := ⟨RX8, "rest", "(II)I"⟩
abbrev cX8_tell : ByteArray := prog_1_method_39_code
def yX8_tell : MethodName := ⟨RX8, "tell", "(I)I"⟩
abbrev cX8_check : ByteArray := prog_1_method_40_code
def yX8_check : MethodName := ⟨RX8, "check", "(II)I"⟩
abbrev cX8_keep : ByteArray := prog_1_method_41_code
def yX8_keep : MethodName := ⟨RX8, "keep", "()I"⟩
abbrev cX8_back : ByteArray := prog_1_method_42_code
def yX8_back : MethodName := ⟨RX8, "back", "()I"⟩
abbrev cX8_count : ByteArray := prog_1_method_43_code
def yX8_count : MethodName := ⟨RX8, "count", "(I)I"⟩
abbrev cX8_shapeAt : ByteArray := prog_1_method_44_code
def yX8_shapeAt : MethodName := ⟨RX8, "shapeAt", "(II)LBentBranches$Shape;"⟩
abbrev cX8_sheetOf : ByteArray := prog_1_method_45_code
def yX8_sheetOf : MethodName := ⟨RX8, "sheetOf", "(I)LBentBranches$Row;"⟩
abbrev cX8_slotOf : ByteArray := prog_1_method_46_code
def yX8_slotOf : MethodName := ⟨RX8, "slotOf", "(I)LBentBranches$Slot;"⟩
abbrev cX8_isKind : ByteArray := prog_1_method_47_code
def yX8_isKind : MethodName := ⟨RX8, "isKind", "(I)Z"⟩
abbrev cX8_isSlope : ByteArray := prog_1_method_48_code
def yX8_isSlope : MethodName := ⟨RX8, "isSlope", "(I)Z"⟩
abbrev cX8_held : ByteArray := prog_1_method_49_code
def yX8_held : MethodName := ⟨RX8, "held", "(I)I"⟩
abbrev cX8_indexOf : ByteArray := prog_1_method_50_code
def yX8_indexOf : MethodName := ⟨RX8, "indexOf", "(II)I"⟩
abbrev cX8_greatestShared : ByteArray := prog_1_method_51_code
def yX8_greatestShared : MethodName := ⟨RX8, "greatestShared", "(II)I"⟩
def RX9 : String := "BentBranchesModel"
def TX9 : u_T := fun k => match k with
  | 0 => ("BentBranchesModel", "now", "[I", true)
  | 1 => ("BentBranchesModel", "image", "[I", true)
  | 2 => ("BentBranchesModel", "aside", "[I", true)
  | 3 => ("BentBranchesModel", "hasImage", "Z", false)
  | 4 => ("BentBranchesModel", "terms", "[I", true)
  | 5 => ("BentBranchesModel", "shapes", "[J", true)
  | 6 => ("BentBranchesModel", "parted", "[J", true)
  | 7 => ("BentBranchesModel", "treeMany", "I", false)
  | 8 => ("BentBranchesModel", "treeBelongs", "I", false)
  | 9 => ("BentBranchesModel", "treeEnds", "I", false)
  | 10 => ("BentBranchesModel", "depths", "[I", true)
  | 11 => ("BentBranchesModel", "isOn", "[Z", true)
  | 12 => ("BentBranchesModel", "tape", "[I", true)
  | 13 => ("BentBranchesModel", "taped", "I", false)
  | 14 => ("BentBranchesModel", "next", "I", false)
  | 15 => ("BentBranchesModel", "from", "I", false)
  | 16 => ("BentBranchesModel", "token", "I", false)
  | 17 => ("BentBranchesModel", "value", "I", false)
  | 18 => ("BentBranchesModel", "ended", "I", false)
  | 19 => ("BentBranchesModel", "key", "I", false)
  | 20 => ("BentBranchesModel", "keys", "[C", true)
  | 21 => ("BentBranchesModel", "keyAt", "[I", true)
  | 22 => ("BentBranchesModel", "code", "[I", true)
  | 23 => ("BentBranchesModel", "codes", "I", false)
  | 24 => ("BentBranchesModel", "atoms", "I", false)
  | 25 => ("BentBranchesModel", "waits", "[I", true)
  | 26 => ("BentBranchesModel", "held", "I", false)
  | 27 => ("BentBranchesModel", "tested", "[Z", true)
  | 28 => ("BentBranchesModel", "stack", "[I", true)
  | 29 => ("BentBranchesModel", "facts", "[I", true)
  | 30 => ("BentBranchesModel", "sorts", "[I", true)
  | 31 => ("BentBranchesModel", "sizes", "[I", true)
  | 32 => ("BentBranchesModel", "cells", "[I", true)
  | 33 => ("BentBranchesModel", "holds", "[I", true)
  | 34 => ("BentBranchesModel", "holdsA", "[I", true)
  | 35 => ("BentBranchesModel", "holdsB", "[I", true)
  | 36 => ("BentBranchesModel", "heldCells", "[I", true)
  | 37 => ("BentBranchesModel", "moved", "[I", true)
  | 38 => ("BentBranchesModel", "tells", "[I", true)
  | _ => ("BentBranchesModel", "waiting", "I", false)
def tyX9 : Nat → FieldType := fun k => match k with
  | 0 => .array .int
  | 1 => .array .int
  | 2 => .array .int
  | 3 => .boolean
  | 4 => .array .int
  | 5 => .array .long
  | 6 => .array .long
  | 7 => .int
  | 8 => .int
  | 9 => .int
  | 10 => .array .int
  | 11 => .array .boolean
  | 12 => .array .int
  | 13 => .int
  | 14 => .int
  | 15 => .int
  | 16 => .int
  | 17 => .int
  | 18 => .int
  | 19 => .int
  | 20 => .array .char
  | 21 => .array .int
  | 22 => .array .int
  | 23 => .int
  | 24 => .int
  | 25 => .array .int
  | 26 => .int
  | 27 => .array .boolean
  | 28 => .array .int
  | 29 => .array .int
  | 30 => .array .int
  | 31 => .array .int
  | 32 => .array .int
  | 33 => .array .int
  | 34 => .array .int
  | 35 => .array .int
  | 36 => .array .int
  | 37 => .array .int
  | 38 => .array .int
  | _ => .int
abbrev wsX90 : List Cond := u_ws RX9 TX9 40
theorem nmX9 : ∀ a, a < 40 → ∀ b, b < 40 → a ≠ b → (TX9 a).2.1 ≠ (TX9 b).2.1 := by decide +kernel
theorem tyX9_ok : ∀ k, k < 40 → parseFieldDescriptor (TX9 k).2.2.1 = some (tyX9 k) := by decide +kernel
abbrev cX9_init : ByteArray := prog_11_method_1_code
def yX9_init : MethodName := ⟨RX9, "<init>", "()V"⟩
abbrev cX9_in : ByteArray := prog_11_method_2_code
def yX9_in : MethodName := ⟨RX9, "in", "(III)Z"⟩
abbrev cX9_within : ByteArray := prog_11_method_3_code
def yX9_within : MethodName := ⟨RX9, "within", "(III)I"⟩
abbrev cX9_copyAll : ByteArray := prog_11_method_4_code
def yX9_copyAll : MethodName := ⟨RX9, "copyAll", "([I[I)V"⟩
abbrev cX9_isCurve : ByteArray := prog_11_method_5_code
def yX9_isCurve : MethodName := ⟨RX9, "isCurve", "(I)Z"⟩
abbrev cX9_spot : ByteArray := prog_11_method_6_code
def yX9_spot : MethodName := ⟨RX9, "spot", "(III)I"⟩
abbrev cX9_isAt : ByteArray := prog_11_method_7_code
def yX9_isAt : MethodName := ⟨RX9, "isAt", "(I)Z"⟩
abbrev cX9_kindOf : ByteArray := prog_11_method_8_code
def yX9_kindOf : MethodName := ⟨RX9, "kindOf", "(I)I"⟩
abbrev cX9_comes : ByteArray := prog_11_method_9_code
def yX9_comes : MethodName := ⟨RX9, "comes", "(I)I"⟩
abbrev cX9_curve : ByteArray := prog_11_method_10_code
def yX9_curve : MethodName := ⟨RX9, "curve", "(I)I"⟩
abbrev cX9_put : ByteArray := prog_11_method_11_code
def yX9_put : MethodName := ⟨RX9, "put", "(III)I"⟩
abbrev cX9_plain : ByteArray := prog_11_method_12_code
def yX9_plain : MethodName := ⟨RX9, "plain", "(III)I"⟩
abbrev cX9_termOf : ByteArray := prog_11_method_13_code
def yX9_termOf : MethodName := ⟨RX9, "termOf", "(III)I"⟩
abbrev cX9_term : ByteArray := prog_11_method_14_code
def yX9_term : MethodName := ⟨RX9, "term", "(III)I"⟩
abbrev cX9_manyOf : ByteArray := prog_11_method_15_code
def yX9_manyOf : MethodName := ⟨RX9, "manyOf", "(I)I"⟩
abbrev cX9_worthOf : ByteArray := prog_11_method_16_code
def yX9_worthOf : MethodName := ⟨RX9, "worthOf", "(I)I"⟩
abbrev cX9_findTerms : ByteArray := prog_11_method_17_code
def yX9_findTerms : MethodName := ⟨RX9, "findTerms", "(I)I"⟩
abbrev cX9_degreeNow : ByteArray := prog_11_method_18_code
def yX9_degreeNow : MethodName := ⟨RX9, "degreeNow", "()I"⟩
abbrev cX9_told : ByteArray := prog_11_method_19_code
def yX9_told : MethodName := ⟨RX9, "told", "(II)I"⟩
abbrev cX9_isUnder : ByteArray := prog_11_method_20_code
def yX9_isUnder : MethodName := ⟨RX9, "isUnder", "(II)Z"⟩
abbrev cX9_as : ByteArray := prog_11_method_21_code
def yX9_as : MethodName := ⟨RX9, "as", "(II)I"⟩
abbrev cX9_turns : ByteArray := prog_11_method_22_code
def yX9_turns : MethodName := ⟨RX9, "turns", "(II)I"⟩
abbrev cX9_mix : ByteArray := prog_11_method_23_code
def yX9_mix : MethodName := ⟨RX9, "mix", "(IIII)I"⟩
abbrev cX9_draw : ByteArray := prog_11_method_24_code
def yX9_draw : MethodName := ⟨RX9, "draw", "()I"⟩
abbrev cX9_deal : ByteArray := prog_11_method_25_code
def yX9_deal : MethodName := ⟨RX9, "deal", "(I)I"⟩
abbrev cX9_seed : ByteArray := prog_11_method_26_code
def yX9_seed : MethodName := ⟨RX9, "seed", "(I)I"⟩
abbrev cX9_isPlace : ByteArray := prog_11_method_27_code
def yX9_isPlace : MethodName := ⟨RX9, "isPlace", "(I)Z"⟩
abbrev cX9_raised : ByteArray := prog_11_method_28_code
def yX9_raised : MethodName := ⟨RX9, "raised", "(JI)J"⟩
abbrev cX9_value : ByteArray := prog_11_method_29_code
def yX9_value : MethodName := ⟨RX9, "value", "(III)J"⟩
abbrev cX9_choices : ByteArray := prog_11_method_30_code
def yX9_choices : MethodName := ⟨RX9, "choices", "(II)J"⟩
abbrev cX9_findShape : ByteArray := prog_11_method_31_code
def yX9_findShape : MethodName := ⟨RX9, "findShape", "(II)V"⟩
abbrev cX9_findPlace : ByteArray := prog_11_method_32_code
def yX9_findPlace : MethodName := ⟨RX9, "findPlace", "(II)V"⟩
abbrev cX9_timesOf : ByteArray := prog_11_method_33_code
def yX9_timesOf : MethodName := ⟨RX9, "timesOf", "(I)I"⟩
abbrev cX9_times : ByteArray := prog_11_method_34_code
def yX9_times : MethodName := ⟨RX9, "times", "(II)I"⟩
abbrev cX9_shape : ByteArray := prog_11_method_35_code
def yX9_shape : MethodName := ⟨RX9, "shape", "(III)J"⟩
abbrev cX9_isSome : ByteArray := prog_11_method_36_code
def yX9_isSome : MethodName := ⟨RX9, "isSome", "(I)Z"⟩
abbrev cX9_lowestOf : ByteArray := prog_11_method_37_code
def yX9_lowestOf : MethodName := ⟨RX9, "lowestOf", "(III)J"⟩
abbrev cX9_lowest : ByteArray := prog_11_method_38_code
def yX9_lowest : MethodName := ⟨RX9, "lowest", "(III)J"⟩
abbrev cX9_isRoot : ByteArray := prog_11_method_39_code
def yX9_isRoot : MethodName := ⟨RX9, "isRoot", "(III)Z"⟩
abbrev cX9_isSlope : ByteArray := prog_11_method_40_code
def yX9_isSlope : MethodName := ⟨RX9, "isSlope", "(III)Z"⟩
abbrev cX9_slopes : ByteArray := prog_11_method_41_code
def yX9_slopes : MethodName := ⟨RX9, "slopes", "(II)I"⟩
abbrev cX9_parts : ByteArray := prog_11_method_42_code
def yX9_parts : MethodName := ⟨RX9, "parts", "(I)Z"⟩
abbrev cX9_often : ByteArray := prog_11_method_43_code
def yX9_often : MethodName := ⟨RX9, "often", "(III)I"⟩
abbrev cX9_blows : ByteArray := prog_11_method_44_code
def yX9_blows : MethodName := ⟨RX9, "blows", "(IIII)V"⟩
abbrev cX9_blown : ByteArray := prog_11_method_45_code
def yX9_blown : MethodName := ⟨RX9, "blown", "(IIII)I"⟩
abbrev cX9_findTree : ByteArray := prog_11_method_46_code
def yX9_findTree : MethodName := ⟨RX9, "findTree", "(I)V"⟩
abbrev cX9_tree : ByteArray := prog_11_method_47_code
def yX9_tree : MethodName := ⟨RX9, "tree", "(IIII)I"⟩
abbrev cX9_cornerOf : ByteArray := prog_11_method_48_code
def yX9_cornerOf : MethodName := ⟨RX9, "cornerOf", "(I)I"⟩
abbrev cX9_corner : ByteArray := prog_11_method_49_code
def yX9_corner : MethodName := ⟨RX9, "corner", "(III)I"⟩
abbrev cX9_divisor : ByteArray := prog_11_method_50_code
def yX9_divisor : MethodName := ⟨RX9, "divisor", "(II)I"⟩
abbrev cX9_power : ByteArray := prog_11_method_51_code
def yX9_power : MethodName := ⟨RX9, "power", "(III)I"⟩
abbrev cX9_line : ByteArray := prog_11_method_52_code
def yX9_line : MethodName := ⟨RX9, "line", "(III)I"⟩
abbrev cX9_all : ByteArray := prog_11_method_53_code
def yX9_all : MethodName := ⟨RX9, "all", "(II)I"⟩
abbrev cX9_on : ByteArray := prog_11_method_54_code
def yX9_on : MethodName := ⟨RX9, "on", "(II)I"⟩
abbrev cX9_genus : ByteArray := prog_11_method_55_code
def yX9_genus : MethodName := ⟨RX9, "genus", "(I)I"⟩
abbrev cX9_both : ByteArray := prog_11_method_56_code
def yX9_both : MethodName := ⟨RX9, "both", "(II)I"⟩
abbrev cX9_feed : ByteArray := prog_11_method_57_code
def yX9_feed : MethodName := ⟨RX9, "feed", "(III)I"⟩
abbrev cX9_trim : ByteArray := prog_11_method_58_code
def yX9_trim : MethodName := ⟨RX9, "trim", "(I)I"⟩
abbrev cX9_isLetter : ByteArray := prog_11_method_59_code
def yX9_isLetter : MethodName := ⟨RX9, "isLetter", "(I)Z"⟩
abbrev cX9_isFigure : ByteArray := prog_11_method_60_code
def yX9_isFigure : MethodName := ⟨RX9, "isFigure", "(I)Z"⟩
abbrev cX9_go : ByteArray := prog_11_method_61_code
def yX9_go : MethodName := ⟨RX9, "go", "()V"⟩
abbrev cX9_takesKey : ByteArray := prog_11_method_62_code
def yX9_takesKey : MethodName := ⟨RX9, "takesKey", "()Z"⟩
abbrev cX9_nameOf : ByteArray := prog_11_method_63_code
def yX9_nameOf : MethodName := ⟨RX9, "nameOf", "(I)I"⟩
abbrev cX9_rank : ByteArray := prog_11_method_64_code
def yX9_rank : MethodName := ⟨RX9, "rank", "(I)I"⟩
abbrev cX9_settle : ByteArray := prog_11_method_65_code
def yX9_settle : MethodName := ⟨RX9, "settle", "(I)V"⟩
abbrev cX9_signHere : ByteArray := prog_11_method_66_code
def yX9_signHere : MethodName := ⟨RX9, "signHere", "()I"⟩
abbrev cX9_takesPart : ByteArray := prog_11_method_67_code
def yX9_takesPart : MethodName := ⟨RX9, "takesPart", "()Z"⟩
abbrev cX9_takesE : ByteArray := prog_11_method_68_code
def yX9_takesE : MethodName := ⟨RX9, "takesE", "()Z"⟩
abbrev cX9_notsOpen : ByteArray := prog_11_method_69_code
def yX9_notsOpen : MethodName := ⟨RX9, "notsOpen", "()I"⟩
abbrev cX9_text : ByteArray := prog_11_method_70_code
def yX9_text : MethodName := ⟨RX9, "text", "()I"⟩
abbrev cX9_textTold : ByteArray := prog_11_method_71_code
def yX9_textTold : MethodName := ⟨RX9, "textTold", "(II)I"⟩
abbrev cX9_counts : ByteArray := prog_11_method_72_code
def yX9_counts : MethodName := ⟨RX9, "counts", "(I)I"⟩
abbrev cX9_why : ByteArray := prog_11_method_73_code
def yX9_why : MethodName := ⟨RX9, "why", "(I)I"⟩
abbrev cX9_two : ByteArray := prog_11_method_74_code
def yX9_two : MethodName := ⟨RX9, "two", "(III)I"⟩
abbrev cX9_worksOut : ByteArray := prog_11_method_75_code
def yX9_worksOut : MethodName := ⟨RX9, "worksOut", "(I)I"⟩
abbrev cX9_isSheet : ByteArray := prog_11_method_76_code
def yX9_isSheet : MethodName := ⟨RX9, "isSheet", "(I)Z"⟩
abbrev cX9_isSlot : ByteArray := prog_11_method_77_code
def yX9_isSlot : MethodName := ⟨RX9, "isSlot", "(I)Z"⟩
abbrev cX9_sheet : ByteArray := prog_11_method_78_code
def yX9_sheet : MethodName := ⟨RX9, "sheet", "(III)I"⟩
abbrev cX9_mark : ByteArray := prog_11_method_79_code
def yX9_mark : MethodName := ⟨RX9, "mark", "(III)I"⟩
abbrev cX9_pour : ByteArray := prog_11_method_80_code
def yX9_pour : MethodName := ⟨RX9, "pour", "(II)I"⟩
abbrev cX9_copy : ByteArray := prog_11_method_81_code
def yX9_copy : MethodName := ⟨RX9, "copy", "(IIIII)I"⟩
abbrev cX9_lay : ByteArray := prog_11_method_82_code
def yX9_lay : MethodName := ⟨RX9, "lay", "(III)I"⟩
abbrev cX9_ask : ByteArray := prog_11_method_83_code
def yX9_ask : MethodName := ⟨RX9, "ask", "(II)I"⟩
abbrev cX9_item : ByteArray := prog_11_method_84_code
def yX9_item : MethodName := ⟨RX9, "item", "(II)I"⟩
abbrev cX9_rest : ByteArray := prog_11_method_85_code
def yX9_rest : MethodName := ⟨RX9, "rest", "(II)I"⟩
abbrev cX9_tell : ByteArray := prog_11_method_86_code
def yX9_tell : MethodName := ⟨RX9, "tell", "(I)I"⟩
abbrev cX9_check : ByteArray := prog_11_method_87_code
def yX9_check : MethodName := ⟨RX9, "check", "(II)I"⟩
abbrev cX9_keep : ByteArray := prog_11_method_88_code
def yX9_keep : MethodName := ⟨RX9, "keep", "()I"⟩
abbrev cX9_back : ByteArray := prog_11_method_89_code
def yX9_back : MethodName := ⟨RX9, "back", "()I"⟩
abbrev cX9_count : ByteArray := prog_11_method_90_code
def yX9_count : MethodName := ⟨RX9, "count", "(I)I"⟩
def RJx145de : String := "java/io/Serializable"
def TJx145de : u_T := fun k => match k with
  | _ => ("", "", "", false)
def tyJx145de : Nat → FieldType := fun k => match k with
  | _ => .int
abbrev wsJx145de0 : List Cond := u_ws RJx145de TJx145de 0
theorem nmJx145de : ∀ a, a < 0 → ∀ b, b < 0 → a ≠ b → (TJx145de a).2.1 ≠ (TJx145de b).2.1 := by decide +kernel
theorem tyJx145de_ok : ∀ k, k < 0 → parseFieldDescriptor (TJx145de k).2.2.1 = some (tyJx145de k) := by decide +kernel
def RJx9f9b0 : String := "java/lang/CharSequence"
def TJx9f9b0 : u_T := fun k => match k with
  | _ => ("", "", "", false)
def tyJx9f9b0 : Nat → FieldType := fun k => match k with
  | _ => .int
abbrev wsJx9f9b00 : List Cond := u_ws RJx9f9b0 TJx9f9b0 0
theorem nmJx9f9b0 : ∀ a, a < 0 → ∀ b, b < 0 → a ≠ b → (TJx9f9b0 a).2.1 ≠ (TJx9f9b0 b).2.1 := by decide +kernel
theorem tyJx9f9b0_ok : ∀ k, k < 0 → parseFieldDescriptor (TJx9f9b0 k).2.2.1 = some (tyJx9f9b0 k) := by decide +kernel
def RJ11 : String := "java/lang/Character"
def TJ11 : u_T := fun k => match k with
  | _ => ("", "", "", false)
def tyJ11 : Nat → FieldType := fun k => match k with
  | _ => .int
abbrev wsJ110 : List Cond := u_ws RJ11 TJ11 0
theorem nmJ11 : ∀ a, a < 0 → ∀ b, b < 0 → a ≠ b → (TJ11 a).2.1 ≠ (TJ11 b).2.1 := by decide +kernel
theorem tyJ11_ok : ∀ k, k < 0 → parseFieldDescriptor (TJ11 k).2.2.1 = some (tyJ11 k) := by decide +kernel
abbrev cJ11_isValidCodePoint_9a6ad : ByteArray := prog_12_method_11_code
def yJ11_isValidCodePoint_9a6ad : MethodName := ⟨RJ11, "isValidCodePoint", "(I)Z"⟩
abbrev cJ11_highSurrogate_5068e : ByteArray := prog_12_method_28_code
def yJ11_highSurrogate_5068e : MethodName := ⟨RJ11, "highSurrogate", "(I)C"⟩
abbrev cJ11_lowSurrogate_5068e : ByteArray := prog_12_method_29_code
def yJ11_lowSurrogate_5068e : MethodName := ⟨RJ11, "lowSurrogate", "(I)C"⟩
def RJx8e188 : String := "java/lang/Cloneable"
def TJx8e188 : u_T := fun k => match k with
  | _ => ("", "", "", false)
def tyJx8e188 : Nat → FieldType := fun k => match k with
  | _ => .int
abbrev wsJx8e1880 : List Cond := u_ws RJx8e188 TJx8e188 0
theorem nmJx8e188 : ∀ a, a < 0 → ∀ b, b < 0 → a ≠ b → (TJx8e188 a).2.1 ≠ (TJx8e188 b).2.1 := by decide +kernel
theorem tyJx8e188_ok : ∀ k, k < 0 → parseFieldDescriptor (TJx8e188 k).2.2.1 = some (tyJx8e188 k) := by decide +kernel
def RJxb160c : String := "java/lang/Comparable"
def TJxb160c : u_T := fun k => match k with
  | _ => ("", "", "", false)
def tyJxb160c : Nat → FieldType := fun k => match k with
  | _ => .int
abbrev wsJxb160c0 : List Cond := u_ws RJxb160c TJxb160c 0
theorem nmJxb160c : ∀ a, a < 0 → ∀ b, b < 0 → a ≠ b → (TJxb160c a).2.1 ≠ (TJxb160c b).2.1 := by decide +kernel
theorem tyJxb160c_ok : ∀ k, k < 0 → parseFieldDescriptor (TJxb160c k).2.2.1 = some (tyJxb160c k) := by decide +kernel
def RJ9 : String := "java/lang/Math"
def TJ9 : u_T := fun k => match k with
  | _ => ("", "", "", false)
def tyJ9 : Nat → FieldType := fun k => match k with
  | _ => .int
abbrev wsJ90 : List Cond := u_ws RJ9 TJ9 0
theorem nmJ9 : ∀ a, a < 0 → ∀ b, b < 0 → a ≠ b → (TJ9 a).2.1 ≠ (TJ9 b).2.1 := by decide +kernel
theorem tyJ9_ok : ∀ k, k < 0 → parseFieldDescriptor (TJ9 k).2.2.1 = some (tyJ9 k) := by decide +kernel
abbrev cJ9_abs_0f7a4 : ByteArray := prog_14_method_59_code
def yJ9_abs_0f7a4 : MethodName := ⟨RJ9, "abs", "(I)I"⟩
abbrev cJ9_max_7cf53 : ByteArray := prog_14_method_65_code
def yJ9_max_7cf53 : MethodName := ⟨RJ9, "max", "(II)I"⟩
abbrev cJ9_min_7cf53 : ByteArray := prog_14_method_69_code
def yJ9_min_7cf53 : MethodName := ⟨RJ9, "min", "(II)I"⟩
def RJ0 : String := "java/lang/String"
def TJ0 : u_T := fun k => match k with
  | _ => ("", "", "", false)
def tyJ0 : Nat → FieldType := fun k => match k with
  | _ => .int
abbrev wsJ00 : List Cond := u_ws RJ0 TJ0 0
theorem nmJ0 : ∀ a, a < 0 → ∀ b, b < 0 → a ≠ b → (TJ0 a).2.1 ≠ (TJ0 b).2.1 := by decide +kernel
theorem tyJ0_ok : ∀ k, k < 0 → parseFieldDescriptor (TJ0 k).2.2.1 = some (tyJ0 k) := by decide +kernel
abbrev cJ0_length_8abf5 : ByteArray := prog_15_method_54_code
def yJ0_length_8abf5 : MethodName := ⟨RJ0, "length", "()I"⟩
abbrev cJ0_charAt_5068e : ByteArray := prog_15_method_56_code
def yJ0_charAt_5068e : MethodName := ⟨RJ0, "charAt", "(I)C"⟩
abbrev cJ0_indexOf_0f7a4 : ByteArray := prog_15_method_79_code
def yJ0_indexOf_0f7a4 : MethodName := ⟨RJ0, "indexOf", "(I)I"⟩
abbrev cJ0_indexOf_7cf53 : ByteArray := prog_15_method_80_code
def yJ0_indexOf_7cf53 : MethodName := ⟨RJ0, "indexOf", "(II)I"⟩
abbrev cJ0_coder_7d493 : ByteArray := prog_15_method_152_code
def yJ0_coder_7d493 : MethodName := ⟨RJ0, "coder", "()B"⟩
abbrev cJ0_isLatin1_aae02 : ByteArray := prog_15_method_154_code
def yJ0_isLatin1_aae02 : MethodName := ⟨RJ0, "isLatin1", "()Z"⟩
abbrev cJ0_checkIndex_df160 : ByteArray := prog_15_method_155_code
def yJ0_checkIndex_df160 : MethodName := ⟨RJ0, "checkIndex", "(II)V"⟩
abbrev cJ0_checkBoundsBeginEnd_23922 : ByteArray := prog_15_method_158_code
def yJ0_checkBoundsBeginEnd_23922 : MethodName := ⟨RJ0, "checkBoundsBeginEnd", "(III)V"⟩
def RJ1 : String := "java/lang/StringLatin1"
def TJ1 : u_T := fun k => match k with
  | _ => ("", "", "", false)
def tyJ1 : Nat → FieldType := fun k => match k with
  | _ => .int
abbrev wsJ10 : List Cond := u_ws RJ1 TJ1 0
theorem nmJ1 : ∀ a, a < 0 → ∀ b, b < 0 → a ≠ b → (TJ1 a).2.1 ≠ (TJ1 b).2.1 := by decide +kernel
theorem tyJ1_ok : ∀ k, k < 0 → parseFieldDescriptor (TJ1 k).2.2.1 = some (tyJ1 k) := by decide +kernel
abbrev cJ1_charAt_3b067 : ByteArray := prog_16_method_2_code
def yJ1_charAt_3b067 : MethodName := ⟨RJ1, "charAt", "([BI)C"⟩
abbrev cJ1_canEncode_9a6ad : ByteArray := prog_16_method_4_code
def yJ1_canEncode_9a6ad : MethodName := ⟨RJ1, "canEncode", "(I)Z"⟩
abbrev cJ1_indexOf_4cfef : ByteArray := prog_16_method_22_code
def yJ1_indexOf_4cfef : MethodName := ⟨RJ1, "indexOf", "([BIII)I"⟩
abbrev cJ1_indexOfChar_4cfef : ByteArray := prog_16_method_23_code
def yJ1_indexOfChar_4cfef : MethodName := ⟨RJ1, "indexOfChar", "([BIII)I"⟩
def RJ2 : String := "java/lang/StringUTF16"
def TJ2 : u_T := fun k => match k with
  | _ => ("", "", "", false)
def tyJ2 : Nat → FieldType := fun k => match k with
  | _ => .int
abbrev wsJ20 : List Cond := u_ws RJ2 TJ2 0
theorem nmJ2 : ∀ a, a < 0 → ∀ b, b < 0 → a ≠ b → (TJ2 a).2.1 ≠ (TJ2 b).2.1 := by decide +kernel
theorem tyJ2_ok : ∀ k, k < 0 → parseFieldDescriptor (TJ2 k).2.2.1 = some (tyJ2 k) := by decide +kernel
abbrev cJ2_getChar_3b067 : ByteArray := prog_17_method_5_code
def yJ2_getChar_3b067 : MethodName := ⟨RJ2, "getChar", "([BI)C"⟩
abbrev cJ2_length_9d52b : ByteArray := prog_17_method_6_code
def yJ2_length_9d52b : MethodName := ⟨RJ2, "length", "([B)I"⟩
abbrev cJ2_indexOf_4cfef : ByteArray := prog_17_method_40_code
def yJ2_indexOf_4cfef : MethodName := ⟨RJ2, "indexOf", "([BIII)I"⟩
abbrev cJ2_indexOfChar_4cfef : ByteArray := prog_17_method_47_code
def yJ2_indexOfChar_4cfef : MethodName := ⟨RJ2, "indexOfChar", "([BIII)I"⟩
abbrev cJ2_indexOfCharUnsafe_4cfef : ByteArray := prog_17_method_48_code
def yJ2_indexOfCharUnsafe_4cfef : MethodName := ⟨RJ2, "indexOfCharUnsafe", "([BIII)I"⟩
abbrev cJ2_indexOfSupplementary_4cfef : ByteArray := prog_17_method_49_code
def yJ2_indexOfSupplementary_4cfef : MethodName := ⟨RJ2, "indexOfSupplementary", "([BIII)I"⟩
abbrev cJ2_charAt_3b067 : ByteArray := prog_17_method_83_code
def yJ2_charAt_3b067 : MethodName := ⟨RJ2, "charAt", "([BI)C"⟩
abbrev cJ2_checkIndex_2214a : ByteArray := prog_17_method_91_code
def yJ2_checkIndex_2214a : MethodName := ⟨RJ2, "checkIndex", "(I[B)V"⟩
abbrev cJ2_checkBoundsBeginEnd_d044e : ByteArray := prog_17_method_93_code
def yJ2_checkBoundsBeginEnd_d044e : MethodName := ⟨RJ2, "checkBoundsBeginEnd", "(II[B)V"⟩
def RJ10 : String := "java/lang/System"
def TJ10 : u_T := fun k => match k with
  | _ => ("", "", "", false)
def tyJ10 : Nat → FieldType := fun k => match k with
  | _ => .int
abbrev wsJ100 : List Cond := u_ws RJ10 TJ10 0
theorem nmJ10 : ∀ a, a < 0 → ∀ b, b < 0 → a ≠ b → (TJ10 a).2.1 ≠ (TJ10 b).2.1 := by decide +kernel
theorem tyJ10_ok : ∀ k, k < 0 → parseFieldDescriptor (TJ10 k).2.2.1 = some (tyJ10 k) := by decide +kernel
def RJxfd54e : String := "java/lang/constant/Constable"
def TJxfd54e : u_T := fun k => match k with
  | _ => ("", "", "", false)
def tyJxfd54e : Nat → FieldType := fun k => match k with
  | _ => .int
abbrev wsJxfd54e0 : List Cond := u_ws RJxfd54e TJxfd54e 0
theorem nmJxfd54e : ∀ a, a < 0 → ∀ b, b < 0 → a ≠ b → (TJxfd54e a).2.1 ≠ (TJxfd54e b).2.1 := by decide +kernel
theorem tyJxfd54e_ok : ∀ k, k < 0 → parseFieldDescriptor (TJxfd54e k).2.2.1 = some (tyJxfd54e k) := by decide +kernel
def RJx3cf43 : String := "java/lang/constant/ConstantDesc"
def TJx3cf43 : u_T := fun k => match k with
  | _ => ("", "", "", false)
def tyJx3cf43 : Nat → FieldType := fun k => match k with
  | _ => .int
abbrev wsJx3cf430 : List Cond := u_ws RJx3cf43 TJx3cf43 0
theorem nmJx3cf43 : ∀ a, a < 0 → ∀ b, b < 0 → a ≠ b → (TJx3cf43 a).2.1 ≠ (TJx3cf43 b).2.1 := by decide +kernel
theorem tyJx3cf43_ok : ∀ k, k < 0 → parseFieldDescriptor (TJx3cf43 k).2.2.1 = some (tyJx3cf43 k) := by decide +kernel
def RJ7 : String := "java/util/Arrays"
def TJ7 : u_T := fun k => match k with
  | _ => ("", "", "", false)
def tyJ7 : Nat → FieldType := fun k => match k with
  | _ => .int
abbrev wsJ70 : List Cond := u_ws RJ7 TJ7 0
theorem nmJ7 : ∀ a, a < 0 → ∀ b, b < 0 → a ≠ b → (TJ7 a).2.1 ≠ (TJ7 b).2.1 := by decide +kernel
theorem tyJ7_ok : ∀ k, k < 0 → parseFieldDescriptor (TJ7 k).2.2.1 = some (tyJ7 k) := by decide +kernel
abbrev cJ7_fill_d0a16 : ByteArray := prog_19_method_101_code
def yJ7_fill_d0a16 : MethodName := ⟨RJ7, "fill", "([JJ)V"⟩
abbrev cJ7_fill_53178 : ByteArray := prog_19_method_103_code
def yJ7_fill_53178 : MethodName := ⟨RJ7, "fill", "([II)V"⟩
abbrev cJ7_copyOf_59c91 : ByteArray := prog_19_method_123_code
def yJ7_copyOf_59c91 : MethodName := ⟨RJ7, "copyOf", "([II)[I"⟩
def RJ3 : String := "jdk/internal/util/Preconditions"
def TJ3 : u_T := fun k => match k with
  | _ => ("", "", "", false)
def tyJ3 : Nat → FieldType := fun k => match k with
  | _ => .int
abbrev wsJ30 : List Cond := u_ws RJ3 TJ3 0
theorem nmJ3 : ∀ a, a < 0 → ∀ b, b < 0 → a ≠ b → (TJ3 a).2.1 ≠ (TJ3 b).2.1 := by decide +kernel
theorem tyJ3_ok : ∀ k, k < 0 → parseFieldDescriptor (TJ3 k).2.2.1 = some (tyJ3 k) := by decide +kernel
abbrev cJ3_checkIndex_8e157 : ByteArray := prog_20_method_11_code
def yJ3_checkIndex_8e157 : MethodName := ⟨RJ3, "checkIndex", "(IILjava/util/function/BiFunction;)I"⟩
abbrev cJ3_checkFromToIndex_8c36e : ByteArray := prog_20_method_12_code
def yJ3_checkFromToIndex_8c36e : MethodName := ⟨RJ3, "checkFromToIndex", "(IIILjava/util/function/BiFunction;)I"⟩
def RL : String := "BentBranchesLaw"
abbrev cL_law : ByteArray := code
def yL_law : MethodName := ⟨RL, "law", "([I)Z"⟩
abbrev vwCl : List vw_C := [(RX0, TX0, 2), (RX1, TX1, 3), (RX2, TX2, 3), (RX3, TX3, 1), (RX4, TX4, 4), (RX5, TX5, 7), (RX6, TX6, 9), (RX7, TX7, 6), (RX8, TX8, 10), (RX9, TX9, 40)]
def e_wl : List Cond := lw_tbl.filter goodWord
theorem e_tt {w : Cond} (h : w ∈ tables_1) (hg : goodWord w = true) : w ∈ e_wl := List.mem_filter.mpr ⟨List.mem_append_right _ h, hg⟩
theorem e_tp {w : Cond} {i : Nat} (h : (k2_sels lw_privs)[i]? = some w) (hg : goodWord w = true) : w ∈ e_wl := List.mem_filter.mpr ⟨List.mem_append_left _ (List.mem_of_getElem? h), hg⟩
theorem e_t1 {w : Cond} {i : Nat} (h : tables_1_1[i]? = some w) (hg : goodWord w = true) : w ∈ e_wl := e_tt (List.mem_append_left _ (List.mem_of_getElem? h)) hg
theorem e_t2 {w : Cond} {i : Nat} (h : tables_1_2[i]? = some w) (hg : goodWord w = true) : w ∈ e_wl := e_tt (List.mem_append_right _ (List.mem_append_left _ (List.mem_of_getElem? h))) hg
theorem e_t3 {w : Cond} {i : Nat} (h : tables_1_3[i]? = some w) (hg : goodWord w = true) : w ∈ e_wl := e_tt (List.mem_append_right _ (List.mem_append_right _ (List.mem_append_left _ (List.mem_of_getElem? h)))) hg
theorem e_t4 {w : Cond} {i : Nat} (h : tables_1_4[i]? = some w) (hg : goodWord w = true) : w ∈ e_wl := e_tt (List.mem_append_right _ (List.mem_append_right _ (List.mem_append_right _ (List.mem_append_left _ (List.mem_of_getElem? h))))) hg
theorem e_t5 {w : Cond} {i : Nat} (h : tables_1_5[i]? = some w) (hg : goodWord w = true) : w ∈ e_wl := e_tt (List.mem_append_right _ (List.mem_append_right _ (List.mem_append_right _ (List.mem_append_right _ (List.mem_append_left _ (List.mem_of_getElem? h)))))) hg
theorem e_t6 {w : Cond} {i : Nat} (h : tables_1_6[i]? = some w) (hg : goodWord w = true) : w ∈ e_wl := e_tt (List.mem_append_right _ (List.mem_append_right _ (List.mem_append_right _ (List.mem_append_right _ (List.mem_append_right _ (List.mem_append_left _ (List.mem_of_getElem? h))))))) hg
theorem e_t7 {w : Cond} {i : Nat} (h : tables_1_7[i]? = some w) (hg : goodWord w = true) : w ∈ e_wl := e_tt (List.mem_append_right _ (List.mem_append_right _ (List.mem_append_right _ (List.mem_append_right _ (List.mem_append_right _ (List.mem_append_right _ (List.mem_of_getElem? h))))))) hg
theorem q_1_0 : Cond.initialized RL ∈ e_wl := e_t1 (i := 0) rfl rfl
theorem q_1_1 : Cond.initialized RX8 ∈ e_wl := e_t1 (i := 1) rfl rfl
theorem q_1_2 : Cond.initialized RX7 ∈ e_wl := e_t1 (i := 2) rfl rfl
theorem q_1_3 : Cond.initialized RX0 ∈ e_wl := e_t1 (i := 3) rfl rfl
theorem q_1_4 : Cond.initialized RX6 ∈ e_wl := e_t1 (i := 4) rfl rfl
theorem q_1_5 : Cond.initialized RX3 ∈ e_wl := e_t1 (i := 5) rfl rfl
theorem q_1_6 : Cond.initialized RX5 ∈ e_wl := e_t1 (i := 6) rfl rfl
theorem q_1_7 : Cond.initialized RX2 ∈ e_wl := e_t1 (i := 7) rfl rfl
theorem q_1_8 : Cond.initialized RX4 ∈ e_wl := e_t1 (i := 8) rfl rfl
theorem q_1_9 : Cond.initialized RX9 ∈ e_wl := e_t1 (i := 9) rfl rfl
theorem q_1_10 : Cond.initialized RJ7 ∈ e_wl := e_t1 (i := 10) rfl rfl
theorem q_1_11 : Cond.initialized RX1 ∈ e_wl := e_t1 (i := 11) rfl rfl
theorem q_1_12 : Cond.initialized RJ9 ∈ e_wl := e_t1 (i := 12) rfl rfl
theorem q_1_13 : Cond.initialized RJ10 ∈ e_wl := e_t1 (i := 13) rfl rfl
theorem q_1_14 : Cond.initialized RJ0 ∈ e_wl := e_t1 (i := 14) rfl rfl
theorem q_1_15 : Cond.initialized RJ1 ∈ e_wl := e_t1 (i := 15) rfl rfl
theorem q_1_16 : Cond.initialized RJ3 ∈ e_wl := e_t1 (i := 16) rfl rfl
theorem q_1_17 : Cond.initialized RJ2 ∈ e_wl := e_t1 (i := 17) rfl rfl
theorem q_1_18 : Cond.initialized RJ11 ∈ e_wl := e_t1 (i := 18) rfl rfl
theorem q_1_19 : Cond.classLink RL 7 RX8 ∈ e_wl := e_t1 (i := 19) rfl rfl
theorem q_1_20 : Cond.instantiable RX8 10 ∈ e_wl := e_t1 (i := 20) rfl rfl
theorem q_1_21 : Cond.methodLink RL 9 yX8_init ∈ e_wl := e_t1 (i := 21) rfl rfl
theorem q_1_22 : Cond.instanceMethod yX8_init ∈ e_wl := e_t1 (i := 22) rfl rfl
theorem q_1_23 : Cond.code yX8_init cX8_init 2 none ∈ e_wl := e_t1 (i := 23) rfl rfl
theorem q_1_24 : Cond.methodLink RX8 1 objectInit ∈ e_wl := e_t1 (i := 24) rfl rfl
theorem q_1_25 : Cond.instanceMethod objectInit ∈ e_wl := e_t1 (i := 25) rfl rfl
theorem q_1_26 : Cond.code objectInit object_method_1_code 1 none ∈ e_wl := e_t1 (i := 26) rfl rfl
theorem q_1_27 : Cond.classLink RX8 7 RX7 ∈ e_wl := e_t1 (i := 27) rfl rfl
theorem q_1_28 : Cond.instantiable RX7 6 ∈ e_wl := e_t1 (i := 28) rfl rfl
theorem q_1_29 : Cond.methodLink RX8 9 yX7_init ∈ e_wl := e_t1 (i := 29) rfl rfl
theorem q_1_30 : Cond.instanceMethod yX7_init ∈ e_wl := e_t1 (i := 30) rfl rfl
theorem q_1_31 : Cond.code yX7_init cX7_init 2 none ∈ e_wl := e_t1 (i := 31) rfl rfl
theorem q_1_32 : Cond.methodLink RX7 3 objectInit ∈ e_wl := e_t1 (i := 32) rfl rfl
theorem q_1_33 : Cond.classLink RX7 21 RX0 ∈ e_wl := e_t1 (i := 33) rfl rfl
theorem q_1_35 : Cond.classLink RX7 27 RX1 ∈ e_wl := e_t1 (i := 35) rfl rfl
theorem q_1_37 : Cond.instantiable RX0 2 ∈ e_wl := e_t1 (i := 37) rfl rfl
theorem q_1_39 : Cond.instanceMethod yX0_init ∈ e_wl := e_t1 (i := 39) rfl rfl
theorem q_1_40 : Cond.code yX0_init cX0_init 1 none ∈ e_wl := e_t1 (i := 40) rfl rfl
theorem q_1_41 : Cond.methodLink RX0 3 objectInit ∈ e_wl := e_t1 (i := 41) rfl rfl
theorem q_1_42 : Cond.fieldLink RX0 9 "BentBranches$Curve" "kind" "I" ∈ e_wl := e_t1 (i := 42) rfl rfl
theorem q_1_43 : Cond.fieldLink RX8 98 "BentBranches$Curve" "kind" "I" ∈ e_wl := e_t1 (i := 43) rfl rfl
theorem q_1_44 : Cond.fieldLink RX0 15 "BentBranches$Curve" "numbers" "[I" ∈ e_wl := e_t1 (i := 44) rfl rfl
theorem q_1_45 : Cond.lays "BentBranches$Curve" "BentBranches$Curve" "kind" "I" ∈ e_wl := e_t1 (i := 45) rfl rfl
theorem q_1_47 : Cond.laysFinal "BentBranches$Curve" "BentBranches$Curve" "numbers" "[I" ∈ e_wl := e_t1 (i := 47) rfl rfl
theorem q_1_50 : Cond.arrayClass FieldType.int ∈ e_wl := e_t1 (i := 50) rfl rfl
theorem q_1_51 : Cond.fieldLink RX7 9 "BentBranches$World" "curveCount" "I" ∈ e_wl := e_t1 (i := 51) rfl rfl
theorem q_1_52 : Cond.fieldLink RX8 74 "BentBranches$World" "curveCount" "I" ∈ e_wl := e_t1 (i := 52) rfl rfl
theorem q_1_53 : Cond.fieldLink RX7 15 "BentBranches$World" "lawCount" "I" ∈ e_wl := e_t1 (i := 53) rfl rfl
theorem q_1_54 : Cond.fieldLink RX8 245 "BentBranches$World" "lawCount" "I" ∈ e_wl := e_t1 (i := 54) rfl rfl
theorem q_1_55 : Cond.fieldLink RX7 18 "BentBranches$World" "z" "I" ∈ e_wl := e_t1 (i := 55) rfl rfl
theorem q_1_56 : Cond.fieldLink RX8 131 "BentBranches$World" "z" "I" ∈ e_wl := e_t1 (i := 56) rfl rfl
theorem q_1_57 : Cond.fieldLink RX7 23 "BentBranches$World" "curves" "[LBentBranches$Curve;" ∈ e_wl := e_t1 (i := 57) rfl rfl
theorem q_1_58 : Cond.fieldLink RX7 29 "BentBranches$World" "laws" "[LBentBranches$Law;" ∈ e_wl := e_t1 (i := 58) rfl rfl
theorem q_1_59 : Cond.fieldLink RX7 33 "BentBranches$World" "stack" "[I" ∈ e_wl := e_t1 (i := 59) rfl rfl
theorem q_1_60 : Cond.lays "BentBranches$World" "BentBranches$World" "curveCount" "I" ∈ e_wl := e_t1 (i := 60) rfl rfl
theorem q_1_62 : Cond.lays "BentBranches$World" "BentBranches$World" "lawCount" "I" ∈ e_wl := e_t1 (i := 62) rfl rfl
theorem q_1_64 : Cond.lays "BentBranches$World" "BentBranches$World" "z" "I" ∈ e_wl := e_t1 (i := 64) rfl rfl
theorem q_1_66 : Cond.laysFinal "BentBranches$World" "BentBranches$World" "curves" "[LBentBranches$Curve;" ∈ e_wl := e_t1 (i := 66) rfl rfl
theorem q_1_68 : Cond.laysFinal "BentBranches$World" "BentBranches$World" "laws" "[LBentBranches$Law;" ∈ e_wl := e_t1 (i := 68) rfl rfl
theorem q_1_70 : Cond.laysFinal "BentBranches$World" "BentBranches$World" "stack" "[I" ∈ e_wl := e_t1 (i := 70) rfl rfl
theorem q_1_73 : Cond.classLink RX8 19 RX6 ∈ e_wl := e_t1 (i := 73) rfl rfl
theorem q_1_74 : Cond.instantiable RX6 9 ∈ e_wl := e_t1 (i := 74) rfl rfl
theorem q_1_75 : Cond.methodLink RX8 21 yX6_init ∈ e_wl := e_t1 (i := 75) rfl rfl
theorem q_1_76 : Cond.instanceMethod yX6_init ∈ e_wl := e_t1 (i := 76) rfl rfl
theorem q_1_77 : Cond.code yX6_init cX6_init 3 none ∈ e_wl := e_t1 (i := 77) rfl rfl
theorem q_1_78 : Cond.methodLink RX6 3 objectInit ∈ e_wl := e_t1 (i := 78) rfl rfl
theorem q_1_79 : Cond.classLink RX6 31 RX3 ∈ e_wl := e_t1 (i := 79) rfl rfl
theorem q_1_81 : Cond.instantiable RX3 1 ∈ e_wl := e_t1 (i := 81) rfl rfl
theorem q_1_83 : Cond.instanceMethod yX3_init ∈ e_wl := e_t1 (i := 83) rfl rfl
theorem q_1_84 : Cond.code yX3_init cX3_init 1 none ∈ e_wl := e_t1 (i := 84) rfl rfl
theorem q_1_85 : Cond.methodLink RX3 3 objectInit ∈ e_wl := e_t1 (i := 85) rfl rfl
theorem q_1_86 : Cond.fieldLink RX3 11 "BentBranches$Shape" "numbers" "[J" ∈ e_wl := e_t1 (i := 86) rfl rfl
theorem q_1_87 : Cond.laysFinal "BentBranches$Shape" "BentBranches$Shape" "numbers" "[J" ∈ e_wl := e_t1 (i := 87) rfl rfl
theorem q_1_90 : Cond.arrayClass FieldType.long ∈ e_wl := e_t1 (i := 90) rfl rfl
theorem q_1_91 : Cond.fieldLink RX6 9 "BentBranches$View" "treeShapes" "I" ∈ e_wl := e_t1 (i := 91) rfl rfl
theorem q_1_92 : Cond.fieldLink RX8 182 "BentBranches$View" "treeShapes" "I" ∈ e_wl := e_t1 (i := 92) rfl rfl
theorem q_1_93 : Cond.fieldLink RX6 15 "BentBranches$View" "treeBelongs" "I" ∈ e_wl := e_t1 (i := 93) rfl rfl
theorem q_1_94 : Cond.fieldLink RX8 185 "BentBranches$View" "treeBelongs" "I" ∈ e_wl := e_t1 (i := 94) rfl rfl
theorem q_1_95 : Cond.fieldLink RX6 18 "BentBranches$View" "treeEnds" "I" ∈ e_wl := e_t1 (i := 95) rfl rfl
theorem q_1_96 : Cond.fieldLink RX8 188 "BentBranches$View" "treeEnds" "I" ∈ e_wl := e_t1 (i := 96) rfl rfl
theorem q_1_97 : Cond.fieldLink RX6 41 "BentBranches$View" "world" "LBentBranches$World;" ∈ e_wl := e_t1 (i := 97) rfl rfl
theorem q_1_98 : Cond.fieldLink RX6 21 "BentBranches$View" "terms" "[I" ∈ e_wl := e_t1 (i := 98) rfl rfl
theorem q_1_99 : Cond.fieldLink RX6 25 "BentBranches$View" "times" "[I" ∈ e_wl := e_t1 (i := 99) rfl rfl
theorem q_1_100 : Cond.fieldLink RX6 28 "BentBranches$View" "earlier" "[I" ∈ e_wl := e_t1 (i := 100) rfl rfl
theorem q_1_101 : Cond.fieldLink RX6 33 "BentBranches$View" "shapes" "[LBentBranches$Shape;" ∈ e_wl := e_t1 (i := 101) rfl rfl
theorem q_1_102 : Cond.fieldLink RX6 37 "BentBranches$View" "powers" "[J" ∈ e_wl := e_t1 (i := 102) rfl rfl
theorem q_1_103 : Cond.lays "BentBranches$View" "BentBranches$View" "treeShapes" "I" ∈ e_wl := e_t1 (i := 103) rfl rfl
theorem q_1_105 : Cond.lays "BentBranches$View" "BentBranches$View" "treeBelongs" "I" ∈ e_wl := e_t1 (i := 105) rfl rfl
theorem q_1_107 : Cond.lays "BentBranches$View" "BentBranches$View" "treeEnds" "I" ∈ e_wl := e_t1 (i := 107) rfl rfl
theorem q_1_109 : Cond.laysFinal "BentBranches$View" "BentBranches$View" "world" "LBentBranches$World;" ∈ e_wl := e_t1 (i := 109) rfl rfl
theorem q_1_111 : Cond.laysFinal "BentBranches$View" "BentBranches$View" "terms" "[I" ∈ e_wl := e_t1 (i := 111) rfl rfl
theorem q_1_113 : Cond.laysFinal "BentBranches$View" "BentBranches$View" "times" "[I" ∈ e_wl := e_t1 (i := 113) rfl rfl
theorem q_1_115 : Cond.laysFinal "BentBranches$View" "BentBranches$View" "earlier" "[I" ∈ e_wl := e_t1 (i := 115) rfl rfl
theorem q_1_117 : Cond.laysFinal "BentBranches$View" "BentBranches$View" "shapes" "[LBentBranches$Shape;" ∈ e_wl := e_t1 (i := 117) rfl rfl
theorem q_1_119 : Cond.laysFinal "BentBranches$View" "BentBranches$View" "powers" "[J" ∈ e_wl := e_t1 (i := 119) rfl rfl
theorem q_1_122 : Cond.classLink RX8 31 RX5 ∈ e_wl := e_t1 (i := 122) rfl rfl
theorem q_1_123 : Cond.instantiable RX5 7 ∈ e_wl := e_t1 (i := 123) rfl rfl
theorem q_1_125 : Cond.instanceMethod yX5_init ∈ e_wl := e_t1 (i := 125) rfl rfl
theorem q_1_126 : Cond.code yX5_init cX5_init 1 none ∈ e_wl := e_t1 (i := 126) rfl rfl
theorem q_1_127 : Cond.methodLink RX5 3 objectInit ∈ e_wl := e_t1 (i := 127) rfl rfl
theorem q_1_128 : Cond.fieldLink RX5 9 "BentBranches$Tape" "length" "I" ∈ e_wl := e_t1 (i := 128) rfl rfl
theorem q_1_129 : Cond.fieldLink RX8 236 "BentBranches$Tape" "length" "I" ∈ e_wl := e_t1 (i := 129) rfl rfl
theorem q_1_130 : Cond.fieldLink RX5 15 "BentBranches$Tape" "bytes" "[I" ∈ e_wl := e_t1 (i := 130) rfl rfl
theorem q_1_131 : Cond.fieldLink RX5 19 "BentBranches$Tape" "code" "[I" ∈ e_wl := e_t1 (i := 131) rfl rfl
theorem q_1_132 : Cond.fieldLink RX5 22 "BentBranches$Tape" "steps" "I" ∈ e_wl := e_t1 (i := 132) rfl rfl
theorem q_1_133 : Cond.fieldLink RX5 25 "BentBranches$Tape" "at" "I" ∈ e_wl := e_t1 (i := 133) rfl rfl
theorem q_1_134 : Cond.fieldLink RX5 28 "BentBranches$Tape" "key" "I" ∈ e_wl := e_t1 (i := 134) rfl rfl
theorem q_1_135 : Cond.fieldLink RX5 31 "BentBranches$Tape" "leaves" "I" ∈ e_wl := e_t1 (i := 135) rfl rfl
theorem q_1_136 : Cond.lays "BentBranches$Tape" "BentBranches$Tape" "length" "I" ∈ e_wl := e_t1 (i := 136) rfl rfl
theorem q_1_138 : Cond.laysFinal "BentBranches$Tape" "BentBranches$Tape" "bytes" "[I" ∈ e_wl := e_t1 (i := 138) rfl rfl
theorem q_1_140 : Cond.laysFinal "BentBranches$Tape" "BentBranches$Tape" "code" "[I" ∈ e_wl := e_t1 (i := 140) rfl rfl
theorem q_1_142 : Cond.lays "BentBranches$Tape" "BentBranches$Tape" "steps" "I" ∈ e_wl := e_t1 (i := 142) rfl rfl
theorem q_1_144 : Cond.lays "BentBranches$Tape" "BentBranches$Tape" "at" "I" ∈ e_wl := e_t1 (i := 144) rfl rfl
theorem q_1_146 : Cond.lays "BentBranches$Tape" "BentBranches$Tape" "key" "I" ∈ e_wl := e_t1 (i := 146) rfl rfl
theorem q_1_148 : Cond.lays "BentBranches$Tape" "BentBranches$Tape" "leaves" "I" ∈ e_wl := e_t1 (i := 148) rfl rfl
theorem q_1_151 : Cond.classLink RX8 38 RX2 ∈ e_wl := e_t1 (i := 151) rfl rfl
theorem q_1_153 : Cond.classLink RX8 44 RX4 ∈ e_wl := e_t1 (i := 153) rfl rfl
theorem q_1_155 : Cond.instantiable RX2 3 ∈ e_wl := e_t1 (i := 155) rfl rfl
theorem q_1_157 : Cond.instanceMethod yX2_init ∈ e_wl := e_t1 (i := 157) rfl rfl
theorem q_1_158 : Cond.code yX2_init cX2_init 1 none ∈ e_wl := e_t1 (i := 158) rfl rfl
theorem q_1_159 : Cond.methodLink RX2 3 objectInit ∈ e_wl := e_t1 (i := 159) rfl rfl
theorem q_1_160 : Cond.fieldLink RX2 9 "BentBranches$Row" "sort" "I" ∈ e_wl := e_t1 (i := 160) rfl rfl
theorem q_1_161 : Cond.fieldLink RX8 279 "BentBranches$Row" "sort" "I" ∈ e_wl := e_t1 (i := 161) rfl rfl
theorem q_1_162 : Cond.fieldLink RX2 15 "BentBranches$Row" "size" "I" ∈ e_wl := e_t1 (i := 162) rfl rfl
theorem q_1_163 : Cond.fieldLink RX8 292 "BentBranches$Row" "size" "I" ∈ e_wl := e_t1 (i := 163) rfl rfl
theorem q_1_164 : Cond.fieldLink RX2 18 "BentBranches$Row" "places" "[I" ∈ e_wl := e_t1 (i := 164) rfl rfl
theorem q_1_165 : Cond.fieldLink RX8 301 "BentBranches$Row" "places" "[I" ∈ e_wl := e_t1 (i := 165) rfl rfl
theorem q_1_166 : Cond.lays "BentBranches$Row" "BentBranches$Row" "sort" "I" ∈ e_wl := e_t1 (i := 166) rfl rfl
theorem q_1_168 : Cond.lays "BentBranches$Row" "BentBranches$Row" "size" "I" ∈ e_wl := e_t1 (i := 168) rfl rfl
theorem q_1_170 : Cond.laysFinal "BentBranches$Row" "BentBranches$Row" "places" "[I" ∈ e_wl := e_t1 (i := 170) rfl rfl
theorem q_1_173 : Cond.instantiable RX4 4 ∈ e_wl := e_t1 (i := 173) rfl rfl
theorem q_1_175 : Cond.instanceMethod yX4_init ∈ e_wl := e_t1 (i := 175) rfl rfl
theorem q_1_176 : Cond.code yX4_init cX4_init 1 none ∈ e_wl := e_t1 (i := 176) rfl rfl
theorem q_1_177 : Cond.methodLink RX4 3 objectInit ∈ e_wl := e_t1 (i := 177) rfl rfl
theorem q_1_178 : Cond.classLink RX4 18 RX0 ∈ e_wl := e_t1 (i := 178) rfl rfl
theorem q_1_180 : Cond.classLink RX4 25 RX2 ∈ e_wl := e_t1 (i := 180) rfl rfl
theorem q_1_182 : Cond.fieldLink RX4 9 "BentBranches$Slot" "thing" "I" ∈ e_wl := e_t1 (i := 182) rfl rfl
theorem q_1_183 : Cond.fieldLink RX8 330 "BentBranches$Slot" "thing" "I" ∈ e_wl := e_t1 (i := 183) rfl rfl
theorem q_1_184 : Cond.fieldLink RX4 15 "BentBranches$Slot" "number" "I" ∈ e_wl := e_t1 (i := 184) rfl rfl
theorem q_1_185 : Cond.fieldLink RX8 328 "BentBranches$Slot" "number" "I" ∈ e_wl := e_t1 (i := 185) rfl rfl
theorem q_1_186 : Cond.fieldLink RX4 21 "BentBranches$Slot" "curve" "LBentBranches$Curve;" ∈ e_wl := e_t1 (i := 186) rfl rfl
theorem q_1_187 : Cond.fieldLink RX8 314 "BentBranches$Slot" "curve" "LBentBranches$Curve;" ∈ e_wl := e_t1 (i := 187) rfl rfl
theorem q_1_188 : Cond.fieldLink RX4 28 "BentBranches$Slot" "row" "LBentBranches$Row;" ∈ e_wl := e_t1 (i := 188) rfl rfl
theorem q_1_189 : Cond.fieldLink RX8 321 "BentBranches$Slot" "row" "LBentBranches$Row;" ∈ e_wl := e_t1 (i := 189) rfl rfl
theorem q_1_190 : Cond.lays "BentBranches$Slot" "BentBranches$Slot" "thing" "I" ∈ e_wl := e_t1 (i := 190) rfl rfl
theorem q_1_192 : Cond.lays "BentBranches$Slot" "BentBranches$Slot" "number" "I" ∈ e_wl := e_t1 (i := 192) rfl rfl
theorem q_1_194 : Cond.laysFinal "BentBranches$Slot" "BentBranches$Slot" "curve" "LBentBranches$Curve;" ∈ e_wl := e_t1 (i := 194) rfl rfl
theorem q_1_196 : Cond.laysFinal "BentBranches$Slot" "BentBranches$Slot" "row" "LBentBranches$Row;" ∈ e_wl := e_t1 (i := 196) rfl rfl
theorem q_1_199 : Cond.fieldLink RX8 10 "BentBranches" "now" "LBentBranches$World;" ∈ e_wl := e_t1 (i := 199) rfl rfl
theorem q_1_200 : Cond.fieldLink RX8 16 "BentBranches" "image" "LBentBranches$World;" ∈ e_wl := e_t1 (i := 200) rfl rfl
theorem q_1_201 : Cond.fieldLink RX8 24 "BentBranches" "view" "LBentBranches$View;" ∈ e_wl := e_t1 (i := 201) rfl rfl
theorem q_1_202 : Cond.fieldLink RX8 28 "BentBranches" "imageView" "LBentBranches$View;" ∈ e_wl := e_t1 (i := 202) rfl rfl
theorem q_1_203 : Cond.fieldLink RX8 34 "BentBranches" "tape" "LBentBranches$Tape;" ∈ e_wl := e_t1 (i := 203) rfl rfl
theorem q_1_204 : Cond.fieldLink RX8 40 "BentBranches" "sheets" "[LBentBranches$Row;" ∈ e_wl := e_t1 (i := 204) rfl rfl
theorem q_1_205 : Cond.fieldLink RX8 46 "BentBranches" "slots" "[LBentBranches$Slot;" ∈ e_wl := e_t1 (i := 205) rfl rfl
theorem q_1_206 : Cond.fieldLink RX8 50 "BentBranches" "waiting" "[I" ∈ e_wl := e_t1 (i := 206) rfl rfl
theorem q_1_207 : Cond.fieldLink RX8 54 "BentBranches" "waitingCount" "I" ∈ e_wl := e_t1 (i := 207) rfl rfl
theorem q_1_208 : Cond.fieldLink RX8 58 "BentBranches" "imageKept" "Z" ∈ e_wl := e_t1 (i := 208) rfl rfl
theorem q_1_209 : Cond.laysFinal "BentBranches" "BentBranches" "now" "LBentBranches$World;" ∈ e_wl := e_t1 (i := 209) rfl rfl
theorem q_1_211 : Cond.laysFinal "BentBranches" "BentBranches" "image" "LBentBranches$World;" ∈ e_wl := e_t1 (i := 211) rfl rfl
theorem q_1_213 : Cond.laysFinal "BentBranches" "BentBranches" "view" "LBentBranches$View;" ∈ e_wl := e_t1 (i := 213) rfl rfl
theorem q_1_215 : Cond.laysFinal "BentBranches" "BentBranches" "imageView" "LBentBranches$View;" ∈ e_wl := e_t1 (i := 215) rfl rfl
theorem q_1_217 : Cond.laysFinal "BentBranches" "BentBranches" "tape" "LBentBranches$Tape;" ∈ e_wl := e_t1 (i := 217) rfl rfl
theorem q_1_219 : Cond.laysFinal "BentBranches" "BentBranches" "sheets" "[LBentBranches$Row;" ∈ e_wl := e_t1 (i := 219) rfl rfl
theorem q_1_221 : Cond.laysFinal "BentBranches" "BentBranches" "slots" "[LBentBranches$Slot;" ∈ e_wl := e_t1 (i := 221) rfl rfl
theorem q_1_223 : Cond.laysFinal "BentBranches" "BentBranches" "waiting" "[I" ∈ e_wl := e_t1 (i := 223) rfl rfl
theorem q_1_225 : Cond.lays "BentBranches" "BentBranches" "waitingCount" "I" ∈ e_wl := e_t1 (i := 225) rfl rfl
theorem q_1_227 : Cond.lays "BentBranches" "BentBranches" "imageKept" "Z" ∈ e_wl := e_t1 (i := 227) rfl rfl
theorem q_1_230 : Cond.methodLink RL 13 yX8_curve ∈ e_wl := e_t1 (i := 230) rfl rfl
theorem q_1_231 : Cond.instanceMethod yX8_curve ∈ e_wl := e_t1 (i := 231) rfl rfl
theorem q_1_232 : Cond.selects RX8 yX8_curve yX8_curve ∈ e_wl := e_t1 (i := 232) rfl rfl
theorem q_1_233 : Cond.code yX8_curve cX8_curve 3 (some FieldType.int) ∈ e_wl := e_t1 (i := 233) rfl rfl
theorem q_1_234 : Cond.methodLink RX8 64 yX8_isKind ∈ e_wl := e_t1 (i := 234) rfl rfl
theorem q_1_235 : Cond.static yX8_isKind ∈ e_wl := e_t1 (i := 235) rfl rfl
theorem q_1_236 : Cond.code yX8_isKind cX8_isKind 1 (some FieldType.boolean) ∈ e_wl := e_t1 (i := 236) rfl rfl
theorem q_1_237 : Cond.constant RX8 68 (-1000000001) ∈ e_wl := e_t1 (i := 237) rfl rfl
theorem q_1_238 : Cond.methodLink RX8 69 yX7_addCurve ∈ e_wl := e_t1 (i := 238) rfl rfl
theorem q_1_239 : Cond.instanceMethod yX7_addCurve ∈ e_wl := e_t1 (i := 239) rfl rfl
theorem q_2_0 : Cond.selects RX7 yX7_addCurve yX7_addCurve ∈ e_wl := e_t2 (i := 0) rfl rfl
theorem q_2_1 : Cond.code yX7_addCurve cX7_addCurve 3 (some (FieldType.object "BentBranches$Curve")) ∈ e_wl := e_t2 (i := 1) rfl rfl
theorem q_2_2 : Cond.methodLink RX7 42 yX0_becomesZero ∈ e_wl := e_t2 (i := 2) rfl rfl
theorem q_2_3 : Cond.instanceMethod yX0_becomesZero ∈ e_wl := e_t2 (i := 3) rfl rfl
theorem q_2_4 : Cond.selects RX0 yX0_becomesZero yX0_becomesZero ∈ e_wl := e_t2 (i := 4) rfl rfl
theorem q_2_5 : Cond.code yX0_becomesZero cX0_becomesZero 2 none ∈ e_wl := e_t2 (i := 5) rfl rfl
theorem q_2_6 : Cond.methodLink RX0 27 yJ7_fill_53178 ∈ e_wl := e_t2 (i := 6) rfl rfl
theorem q_2_7 : Cond.static yJ7_fill_53178 ∈ e_wl := e_t2 (i := 7) rfl rfl
theorem q_2_8 : Cond.code yJ7_fill_53178 cJ7_fill_53178 4 none ∈ e_wl := e_t2 (i := 8) rfl rfl
theorem q_2_9 : Cond.constant RX8 73 (-1000000003) ∈ e_wl := e_t2 (i := 9) rfl rfl
theorem q_2_10 : Cond.methodLink RL 18 yX8_put ∈ e_wl := e_t2 (i := 10) rfl rfl
theorem q_2_11 : Cond.instanceMethod yX8_put ∈ e_wl := e_t2 (i := 11) rfl rfl
theorem q_2_12 : Cond.selects RX8 yX8_put yX8_put ∈ e_wl := e_t2 (i := 12) rfl rfl
theorem q_2_13 : Cond.code yX8_put cX8_put 7 (some FieldType.int) ∈ e_wl := e_t2 (i := 13) rfl rfl
theorem q_2_14 : Cond.methodLink RX8 77 yX7_curveOf ∈ e_wl := e_t2 (i := 14) rfl rfl
theorem q_2_15 : Cond.instanceMethod yX7_curveOf ∈ e_wl := e_t2 (i := 15) rfl rfl
theorem q_2_16 : Cond.selects RX7 yX7_curveOf yX7_curveOf ∈ e_wl := e_t2 (i := 16) rfl rfl
theorem q_2_17 : Cond.code yX7_curveOf cX7_curveOf 2 (some (FieldType.object "BentBranches$Curve")) ∈ e_wl := e_t2 (i := 17) rfl rfl
theorem q_2_18 : Cond.methodLink RX8 80 yX8_indexOf ∈ e_wl := e_t2 (i := 18) rfl rfl
theorem q_2_19 : Cond.static yX8_indexOf ∈ e_wl := e_t2 (i := 19) rfl rfl
theorem q_2_20 : Cond.code yX8_indexOf cX8_indexOf 2 (some FieldType.int) ∈ e_wl := e_t2 (i := 20) rfl rfl
theorem q_2_21 : Cond.fieldLink RX8 348 "BentBranches" "FIRST_OF_X" "[I" ∈ e_wl := e_t2 (i := 21) rfl rfl
theorem q_2_23 : Cond.methodLink RX8 84 yX0_numberAt ∈ e_wl := e_t2 (i := 23) rfl rfl
theorem q_2_24 : Cond.instanceMethod yX0_numberAt ∈ e_wl := e_t2 (i := 24) rfl rfl
theorem q_2_25 : Cond.selects RX0 yX0_numberAt yX0_numberAt ∈ e_wl := e_t2 (i := 25) rfl rfl
theorem q_2_26 : Cond.code yX0_numberAt cX0_numberAt 2 (some FieldType.int) ∈ e_wl := e_t2 (i := 26) rfl rfl
theorem q_2_27 : Cond.methodLink RX8 90 yX0_setNumber ∈ e_wl := e_t2 (i := 27) rfl rfl
theorem q_2_28 : Cond.instanceMethod yX0_setNumber ∈ e_wl := e_t2 (i := 28) rfl rfl
theorem q_2_29 : Cond.selects RX0 yX0_setNumber yX0_setNumber ∈ e_wl := e_t2 (i := 29) rfl rfl
theorem q_2_30 : Cond.code yX0_setNumber cX0_setNumber 3 none ∈ e_wl := e_t2 (i := 30) rfl rfl
theorem q_2_31 : Cond.methodLink RL 23 yX8_term ∈ e_wl := e_t2 (i := 31) rfl rfl
theorem q_2_32 : Cond.instanceMethod yX8_term ∈ e_wl := e_t2 (i := 32) rfl rfl
theorem q_2_33 : Cond.selects RX8 yX8_term yX8_term ∈ e_wl := e_t2 (i := 33) rfl rfl
theorem q_2_34 : Cond.code yX8_term cX8_term 8 (some FieldType.int) ∈ e_wl := e_t2 (i := 34) rfl rfl
theorem q_2_35 : Cond.methodLink RX8 94 yX7_termAt ∈ e_wl := e_t2 (i := 35) rfl rfl
theorem q_2_36 : Cond.instanceMethod yX7_termAt ∈ e_wl := e_t2 (i := 36) rfl rfl
theorem q_2_37 : Cond.selects RX7 yX7_termAt yX7_termAt ∈ e_wl := e_t2 (i := 37) rfl rfl
theorem q_2_38 : Cond.code yX7_termAt cX7_termAt 7 (some FieldType.int) ∈ e_wl := e_t2 (i := 38) rfl rfl
theorem q_2_39 : Cond.methodLink RX7 67 yX0_isOf ∈ e_wl := e_t2 (i := 39) rfl rfl
theorem q_2_40 : Cond.instanceMethod yX0_isOf ∈ e_wl := e_t2 (i := 40) rfl rfl
theorem q_2_41 : Cond.selects RX0 yX0_isOf yX0_isOf ∈ e_wl := e_t2 (i := 41) rfl rfl
theorem q_2_42 : Cond.code yX0_isOf cX0_isOf 2 (some FieldType.boolean) ∈ e_wl := e_t2 (i := 42) rfl rfl
theorem q_2_43 : Cond.methodLink RX7 71 yX0_factor ∈ e_wl := e_t2 (i := 43) rfl rfl
theorem q_2_44 : Cond.instanceMethod yX0_factor ∈ e_wl := e_t2 (i := 44) rfl rfl
theorem q_2_45 : Cond.selects RX0 yX0_factor yX0_factor ∈ e_wl := e_t2 (i := 45) rfl rfl
theorem q_2_46 : Cond.code yX0_factor cX0_factor 3 (some FieldType.int) ∈ e_wl := e_t2 (i := 46) rfl rfl
theorem q_2_47 : Cond.methodLink RX7 75 yX0_number ∈ e_wl := e_t2 (i := 47) rfl rfl
theorem q_2_48 : Cond.instanceMethod yX0_number ∈ e_wl := e_t2 (i := 48) rfl rfl
theorem q_2_49 : Cond.selects RX0 yX0_number yX0_number ∈ e_wl := e_t2 (i := 49) rfl rfl
theorem q_2_50 : Cond.code yX0_number cX0_number 3 (some FieldType.int) ∈ e_wl := e_t2 (i := 50) rfl rfl
theorem q_2_52 : Cond.methodLink RX0 23 yX0_numberAt ∈ e_wl := e_t2 (i := 52) rfl rfl
theorem q_2_53 : Cond.methodLink RX7 78 yX7_lawGives ∈ e_wl := e_t2 (i := 53) rfl rfl
theorem q_2_54 : Cond.instanceMethod yX7_lawGives ∈ e_wl := e_t2 (i := 54) rfl rfl
theorem q_2_55 : Cond.selects RX7 yX7_lawGives yX7_lawGives ∈ e_wl := e_t2 (i := 55) rfl rfl
theorem q_2_56 : Cond.code yX7_lawGives cX7_lawGives 7 (some FieldType.int) ∈ e_wl := e_t2 (i := 56) rfl rfl
theorem q_2_57 : Cond.methodLink RX7 59 yX7_lastLawOf ∈ e_wl := e_t2 (i := 57) rfl rfl
theorem q_2_58 : Cond.instanceMethod yX7_lastLawOf ∈ e_wl := e_t2 (i := 58) rfl rfl
theorem q_2_59 : Cond.selects RX7 yX7_lastLawOf yX7_lastLawOf ∈ e_wl := e_t2 (i := 59) rfl rfl
theorem q_2_60 : Cond.code yX7_lastLawOf cX7_lastLawOf 4 (some FieldType.int) ∈ e_wl := e_t2 (i := 60) rfl rfl
theorem q_2_61 : Cond.methodLink RX7 51 yX7_lawAt ∈ e_wl := e_t2 (i := 61) rfl rfl
theorem q_2_62 : Cond.instanceMethod yX7_lawAt ∈ e_wl := e_t2 (i := 62) rfl rfl
theorem q_2_63 : Cond.selects RX7 yX7_lawAt yX7_lawAt ∈ e_wl := e_t2 (i := 63) rfl rfl
theorem q_2_64 : Cond.code yX7_lawAt cX7_lawAt 2 (some (FieldType.object "BentBranches$Law")) ∈ e_wl := e_t2 (i := 64) rfl rfl
theorem q_2_65 : Cond.methodLink RX7 63 yX1_gives ∈ e_wl := e_t2 (i := 65) rfl rfl
theorem q_2_66 : Cond.instanceMethod yX1_gives ∈ e_wl := e_t2 (i := 66) rfl rfl
theorem q_2_67 : Cond.selects RX1 yX1_gives yX1_gives ∈ e_wl := e_t2 (i := 67) rfl rfl
theorem q_2_68 : Cond.code yX1_gives cX1_gives 8 (some FieldType.int) ∈ e_wl := e_t2 (i := 68) rfl rfl
theorem q_2_69 : Cond.methodLink RX1 20 yX1_joined ∈ e_wl := e_t2 (i := 69) rfl rfl
theorem q_2_70 : Cond.static yX1_joined ∈ e_wl := e_t2 (i := 70) rfl rfl
theorem q_2_71 : Cond.code yX1_joined cX1_joined 3 (some FieldType.int) ∈ e_wl := e_t2 (i := 71) rfl rfl
theorem q_2_73 : Cond.static yX8_held ∈ e_wl := e_t2 (i := 73) rfl rfl
theorem q_2_74 : Cond.code yX8_held cX8_held 1 (some FieldType.int) ∈ e_wl := e_t2 (i := 74) rfl rfl
theorem q_2_75 : Cond.methodLink RX8 342 Lib.Math.min.name ∈ e_wl := e_t2 (i := 75) rfl rfl
theorem q_2_76 : Cond.static Lib.Math.min.name ∈ e_wl := e_t2 (i := 76) rfl rfl
theorem q_2_77 : Cond.code Lib.Math.min.name cJ9_min_7cf53 2 (some FieldType.int) ∈ e_wl := e_t2 (i := 77) rfl rfl
theorem q_2_78 : Cond.methodLink RX8 345 Lib.Math.max.name ∈ e_wl := e_t2 (i := 78) rfl rfl
theorem q_2_79 : Cond.static Lib.Math.max.name ∈ e_wl := e_t2 (i := 79) rfl rfl
theorem q_2_80 : Cond.code Lib.Math.max.name cJ9_max_7cf53 2 (some FieldType.int) ∈ e_wl := e_t2 (i := 80) rfl rfl
theorem q_2_81 : Cond.methodLink RL 27 yX8_told ∈ e_wl := e_t2 (i := 81) rfl rfl
theorem q_2_82 : Cond.instanceMethod yX8_told ∈ e_wl := e_t2 (i := 82) rfl rfl
theorem q_2_83 : Cond.selects RX8 yX8_told yX8_told ∈ e_wl := e_t2 (i := 83) rfl rfl
theorem q_2_84 : Cond.code yX8_told cX8_told 4 (some FieldType.int) ∈ e_wl := e_t2 (i := 84) rfl rfl
theorem q_2_85 : Cond.methodLink RX8 101 yX0_worth ∈ e_wl := e_t2 (i := 85) rfl rfl
theorem q_2_86 : Cond.instanceMethod yX0_worth ∈ e_wl := e_t2 (i := 86) rfl rfl
theorem q_2_87 : Cond.selects RX0 yX0_worth yX0_worth ∈ e_wl := e_t2 (i := 87) rfl rfl
theorem q_2_88 : Cond.code yX0_worth cX0_worth 1 (some FieldType.int) ∈ e_wl := e_t2 (i := 88) rfl rfl
theorem q_2_89 : Cond.methodLink RX0 39 yX0_notZero ∈ e_wl := e_t2 (i := 89) rfl rfl
theorem q_2_90 : Cond.instanceMethod yX0_notZero ∈ e_wl := e_t2 (i := 90) rfl rfl
theorem q_2_91 : Cond.selects RX0 yX0_notZero yX0_notZero ∈ e_wl := e_t2 (i := 91) rfl rfl
theorem q_2_92 : Cond.code yX0_notZero cX0_notZero 3 (some FieldType.int) ∈ e_wl := e_t2 (i := 92) rfl rfl
theorem q_2_93 : Cond.methodLink RX0 43 yX0_number ∈ e_wl := e_t2 (i := 93) rfl rfl
theorem q_2_94 : Cond.methodLink RX8 105 yX6_look ∈ e_wl := e_t2 (i := 94) rfl rfl
theorem q_2_95 : Cond.instanceMethod yX6_look ∈ e_wl := e_t2 (i := 95) rfl rfl
theorem q_2_96 : Cond.selects RX6 yX6_look yX6_look ∈ e_wl := e_t2 (i := 96) rfl rfl
theorem q_2_97 : Cond.code yX6_look cX6_look 4 none ∈ e_wl := e_t2 (i := 97) rfl rfl
theorem q_2_99 : Cond.methodLink RX6 50 yX7_termAt ∈ e_wl := e_t2 (i := 99) rfl rfl
theorem q_2_100 : Cond.methodLink RX6 56 yX6_setTerm ∈ e_wl := e_t2 (i := 100) rfl rfl
theorem q_2_102 : Cond.instanceMethod yX6_setTerm ∈ e_wl := e_t2 (i := 102) rfl rfl
theorem q_2_103 : Cond.code yX6_setTerm cX6_setTerm 3 none ∈ e_wl := e_t2 (i := 103) rfl rfl
theorem q_2_104 : Cond.methodLink RX8 109 yX6_degree ∈ e_wl := e_t2 (i := 104) rfl rfl
theorem q_2_105 : Cond.instanceMethod yX6_degree ∈ e_wl := e_t2 (i := 105) rfl rfl
theorem q_2_106 : Cond.selects RX6 yX6_degree yX6_degree ∈ e_wl := e_t2 (i := 106) rfl rfl
theorem q_2_107 : Cond.code yX6_degree cX6_degree 4 (some FieldType.int) ∈ e_wl := e_t2 (i := 107) rfl rfl
theorem q_2_108 : Cond.methodLink RX6 60 yX6_termOf ∈ e_wl := e_t2 (i := 108) rfl rfl
theorem q_2_110 : Cond.instanceMethod yX6_termOf ∈ e_wl := e_t2 (i := 110) rfl rfl
theorem q_2_111 : Cond.code yX6_termOf cX6_termOf 4 (some FieldType.int) ∈ e_wl := e_t2 (i := 111) rfl rfl
theorem q_2_112 : Cond.methodLink RX6 63 Lib.Math.max.name ∈ e_wl := e_t2 (i := 112) rfl rfl
theorem q_2_113 : Cond.methodLink RX8 112 yX6_termsNotZero ∈ e_wl := e_t2 (i := 113) rfl rfl
theorem q_2_114 : Cond.instanceMethod yX6_termsNotZero ∈ e_wl := e_t2 (i := 114) rfl rfl
theorem q_2_115 : Cond.selects RX6 yX6_termsNotZero yX6_termsNotZero ∈ e_wl := e_t2 (i := 115) rfl rfl
theorem q_2_116 : Cond.code yX6_termsNotZero cX6_termsNotZero 3 (some FieldType.int) ∈ e_wl := e_t2 (i := 116) rfl rfl
theorem q_2_117 : Cond.methodLink RL 32 yX8_as ∈ e_wl := e_t2 (i := 117) rfl rfl
theorem q_2_118 : Cond.instanceMethod yX8_as ∈ e_wl := e_t2 (i := 118) rfl rfl
theorem q_2_119 : Cond.selects RX8 yX8_as yX8_as ∈ e_wl := e_t2 (i := 119) rfl rfl
theorem q_2_120 : Cond.code yX8_as cX8_as 4 (some FieldType.int) ∈ e_wl := e_t2 (i := 120) rfl rfl
theorem q_2_121 : Cond.methodLink RX8 115 yX0_isOf ∈ e_wl := e_t2 (i := 121) rfl rfl
theorem q_2_122 : Cond.methodLink RX8 118 yX0_number ∈ e_wl := e_t2 (i := 122) rfl rfl
theorem q_2_123 : Cond.constant RX8 121 (-1000000012) ∈ e_wl := e_t2 (i := 123) rfl rfl
theorem q_2_124 : Cond.methodLink RL 36 yX8_turns ∈ e_wl := e_t2 (i := 124) rfl rfl
theorem q_2_125 : Cond.instanceMethod yX8_turns ∈ e_wl := e_t2 (i := 125) rfl rfl
theorem q_2_126 : Cond.selects RX8 yX8_turns yX8_turns ∈ e_wl := e_t2 (i := 126) rfl rfl
theorem q_2_127 : Cond.code yX8_turns cX8_turns 5 (some FieldType.int) ∈ e_wl := e_t2 (i := 127) rfl rfl
theorem q_2_128 : Cond.methodLink RL 40 yX8_mix ∈ e_wl := e_t2 (i := 128) rfl rfl
theorem q_2_129 : Cond.instanceMethod yX8_mix ∈ e_wl := e_t2 (i := 129) rfl rfl
theorem q_2_130 : Cond.selects RX8 yX8_mix yX8_mix ∈ e_wl := e_t2 (i := 130) rfl rfl
theorem q_2_131 : Cond.code yX8_mix cX8_mix 10 (some FieldType.int) ∈ e_wl := e_t2 (i := 131) rfl rfl
theorem q_2_132 : Cond.methodLink RX8 122 yX8_held ∈ e_wl := e_t2 (i := 132) rfl rfl
theorem q_2_133 : Cond.methodLink RX8 125 yX0_notZero ∈ e_wl := e_t2 (i := 133) rfl rfl
theorem q_2_134 : Cond.methodLink RL 45 yX8_deal ∈ e_wl := e_t2 (i := 134) rfl rfl
theorem q_2_135 : Cond.instanceMethod yX8_deal ∈ e_wl := e_t2 (i := 135) rfl rfl
theorem q_2_136 : Cond.selects RX8 yX8_deal yX8_deal ∈ e_wl := e_t2 (i := 136) rfl rfl
theorem q_2_137 : Cond.code yX8_deal cX8_deal 5 (some FieldType.int) ∈ e_wl := e_t2 (i := 137) rfl rfl
theorem q_2_138 : Cond.methodLink RX8 128 yX7_drawNumbers ∈ e_wl := e_t2 (i := 138) rfl rfl
theorem q_2_139 : Cond.instanceMethod yX7_drawNumbers ∈ e_wl := e_t2 (i := 139) rfl rfl
theorem q_2_140 : Cond.selects RX7 yX7_drawNumbers yX7_drawNumbers ∈ e_wl := e_t2 (i := 140) rfl rfl
theorem q_2_141 : Cond.code yX7_drawNumbers cX7_drawNumbers 3 none ∈ e_wl := e_t2 (i := 141) rfl rfl
theorem q_2_142 : Cond.constant RX7 46 (1103515245) ∈ e_wl := e_t2 (i := 142) rfl rfl
theorem q_2_143 : Cond.methodLink RX7 47 yX0_setNumber ∈ e_wl := e_t2 (i := 143) rfl rfl
theorem q_2_144 : Cond.methodLink RL 49 yX8_seed ∈ e_wl := e_t2 (i := 144) rfl rfl
theorem q_2_145 : Cond.instanceMethod yX8_seed ∈ e_wl := e_t2 (i := 145) rfl rfl
theorem q_2_146 : Cond.selects RX8 yX8_seed yX8_seed ∈ e_wl := e_t2 (i := 146) rfl rfl
theorem q_2_147 : Cond.code yX8_seed cX8_seed 3 (some FieldType.int) ∈ e_wl := e_t2 (i := 147) rfl rfl
theorem q_2_148 : Cond.methodLink RL 53 yX8_value ∈ e_wl := e_t2 (i := 148) rfl rfl
theorem q_2_149 : Cond.instanceMethod yX8_value ∈ e_wl := e_t2 (i := 149) rfl rfl
theorem q_2_150 : Cond.selects RX8 yX8_value yX8_value ∈ e_wl := e_t2 (i := 150) rfl rfl
theorem q_2_151 : Cond.code yX8_value cX8_value 5 (some FieldType.long) ∈ e_wl := e_t2 (i := 151) rfl rfl
theorem q_2_152 : Cond.constantLong RX8 134 (-1000000001) ∈ e_wl := e_t2 (i := 152) rfl rfl
theorem q_2_153 : Cond.methodLink RX8 136 yX6_valueAt ∈ e_wl := e_t2 (i := 153) rfl rfl
theorem q_2_154 : Cond.instanceMethod yX6_valueAt ∈ e_wl := e_t2 (i := 154) rfl rfl
theorem q_2_155 : Cond.selects RX6 yX6_valueAt yX6_valueAt ∈ e_wl := e_t2 (i := 155) rfl rfl
theorem q_2_156 : Cond.code yX6_valueAt cX6_valueAt 9 (some FieldType.long) ∈ e_wl := e_t2 (i := 156) rfl rfl
theorem q_2_157 : Cond.methodLink RL 58 yX8_times ∈ e_wl := e_t2 (i := 157) rfl rfl
theorem q_2_158 : Cond.instanceMethod yX8_times ∈ e_wl := e_t2 (i := 158) rfl rfl
theorem q_2_159 : Cond.selects RX8 yX8_times yX8_times ∈ e_wl := e_t2 (i := 159) rfl rfl
theorem q_2_160 : Cond.code yX8_times cX8_times 4 (some FieldType.int) ∈ e_wl := e_t2 (i := 160) rfl rfl
theorem q_2_161 : Cond.methodLink RX8 140 yX8_shapeAt ∈ e_wl := e_t2 (i := 161) rfl rfl
theorem q_2_163 : Cond.instanceMethod yX8_shapeAt ∈ e_wl := e_t2 (i := 163) rfl rfl
theorem q_2_164 : Cond.code yX8_shapeAt cX8_shapeAt 4 (some (FieldType.object "BentBranches$Shape")) ∈ e_wl := e_t2 (i := 164) rfl rfl
theorem q_2_165 : Cond.methodLink RX8 339 yX6_stand ∈ e_wl := e_t2 (i := 165) rfl rfl
theorem q_2_166 : Cond.instanceMethod yX6_stand ∈ e_wl := e_t2 (i := 166) rfl rfl
theorem q_2_167 : Cond.selects RX6 yX6_stand yX6_stand ∈ e_wl := e_t2 (i := 167) rfl rfl
theorem q_2_168 : Cond.code yX6_stand cX6_stand 6 (some (FieldType.object "BentBranches$Shape")) ∈ e_wl := e_t2 (i := 168) rfl rfl
theorem q_2_169 : Cond.methodLink RX6 68 yX3_clear ∈ e_wl := e_t2 (i := 169) rfl rfl
theorem q_2_170 : Cond.instanceMethod yX3_clear ∈ e_wl := e_t2 (i := 170) rfl rfl
theorem q_2_171 : Cond.selects RX3 yX3_clear yX3_clear ∈ e_wl := e_t2 (i := 171) rfl rfl
theorem q_2_172 : Cond.code yX3_clear cX3_clear 1 none ∈ e_wl := e_t2 (i := 172) rfl rfl
theorem q_2_173 : Cond.methodLink RX3 15 yJ7_fill_d0a16 ∈ e_wl := e_t2 (i := 173) rfl rfl
theorem q_2_174 : Cond.static yJ7_fill_d0a16 ∈ e_wl := e_t2 (i := 174) rfl rfl
theorem q_2_175 : Cond.code yJ7_fill_d0a16 cJ7_fill_d0a16 5 none ∈ e_wl := e_t2 (i := 175) rfl rfl
theorem q_2_176 : Cond.methodLink RX6 71 yX3_add ∈ e_wl := e_t2 (i := 176) rfl rfl
theorem q_2_177 : Cond.instanceMethod yX3_add ∈ e_wl := e_t2 (i := 177) rfl rfl
theorem q_2_178 : Cond.selects RX3 yX3_add yX3_add ∈ e_wl := e_t2 (i := 178) rfl rfl
theorem q_2_179 : Cond.code yX3_add cX3_add 6 none ∈ e_wl := e_t2 (i := 179) rfl rfl
theorem q_2_180 : Cond.methodLink RX6 75 yX3_moveX ∈ e_wl := e_t2 (i := 180) rfl rfl
theorem q_2_181 : Cond.instanceMethod yX3_moveX ∈ e_wl := e_t2 (i := 181) rfl rfl
theorem q_2_182 : Cond.selects RX3 yX3_moveX yX3_moveX ∈ e_wl := e_t2 (i := 182) rfl rfl
theorem q_2_183 : Cond.code yX3_moveX cX3_moveX 5 none ∈ e_wl := e_t2 (i := 183) rfl rfl
theorem q_2_184 : Cond.methodLink RX3 21 yX3_number ∈ e_wl := e_t2 (i := 184) rfl rfl
theorem q_2_185 : Cond.instanceMethod yX3_number ∈ e_wl := e_t2 (i := 185) rfl rfl
theorem q_2_186 : Cond.selects RX3 yX3_number yX3_number ∈ e_wl := e_t2 (i := 186) rfl rfl
theorem q_2_187 : Cond.code yX3_number cX3_number 4 (some FieldType.long) ∈ e_wl := e_t2 (i := 187) rfl rfl
theorem q_2_188 : Cond.methodLink RX3 25 yX3_add ∈ e_wl := e_t2 (i := 188) rfl rfl
theorem q_2_189 : Cond.methodLink RX6 79 yX3_moveY ∈ e_wl := e_t2 (i := 189) rfl rfl
theorem q_2_190 : Cond.instanceMethod yX3_moveY ∈ e_wl := e_t2 (i := 190) rfl rfl
theorem q_2_191 : Cond.selects RX3 yX3_moveY yX3_moveY ∈ e_wl := e_t2 (i := 191) rfl rfl
theorem q_2_192 : Cond.code yX3_moveY cX3_moveY 6 none ∈ e_wl := e_t2 (i := 192) rfl rfl
theorem q_2_193 : Cond.methodLink RX8 144 yX3_least ∈ e_wl := e_t2 (i := 193) rfl rfl
theorem q_2_194 : Cond.instanceMethod yX3_least ∈ e_wl := e_t2 (i := 194) rfl rfl
theorem q_2_195 : Cond.selects RX3 yX3_least yX3_least ∈ e_wl := e_t2 (i := 195) rfl rfl
theorem q_2_196 : Cond.code yX3_least cX3_least 3 (some FieldType.int) ∈ e_wl := e_t2 (i := 196) rfl rfl
theorem q_2_197 : Cond.methodLink RL 62 yX8_shape ∈ e_wl := e_t2 (i := 197) rfl rfl
theorem q_2_198 : Cond.instanceMethod yX8_shape ∈ e_wl := e_t2 (i := 198) rfl rfl
theorem q_2_199 : Cond.selects RX8 yX8_shape yX8_shape ∈ e_wl := e_t2 (i := 199) rfl rfl
theorem q_2_200 : Cond.code yX8_shape cX8_shape 7 (some FieldType.long) ∈ e_wl := e_t2 (i := 200) rfl rfl
theorem q_2_201 : Cond.methodLink RX8 149 yX3_has ∈ e_wl := e_t2 (i := 201) rfl rfl
theorem q_2_202 : Cond.static yX3_has ∈ e_wl := e_t2 (i := 202) rfl rfl
theorem q_2_203 : Cond.code yX3_has cX3_has 2 (some FieldType.boolean) ∈ e_wl := e_t2 (i := 203) rfl rfl
theorem q_2_204 : Cond.methodLink RX8 153 yX3_number ∈ e_wl := e_t2 (i := 204) rfl rfl
theorem q_2_205 : Cond.methodLink RL 66 yX8_lowest ∈ e_wl := e_t2 (i := 205) rfl rfl
theorem q_2_206 : Cond.instanceMethod yX8_lowest ∈ e_wl := e_t2 (i := 206) rfl rfl
theorem q_2_207 : Cond.selects RX8 yX8_lowest yX8_lowest ∈ e_wl := e_t2 (i := 207) rfl rfl
theorem q_2_208 : Cond.code yX8_lowest cX8_lowest 6 (some FieldType.long) ∈ e_wl := e_t2 (i := 208) rfl rfl
theorem q_2_209 : Cond.methodLink RX8 155 yX3_branches ∈ e_wl := e_t2 (i := 209) rfl rfl
theorem q_2_210 : Cond.static yX3_branches ∈ e_wl := e_t2 (i := 210) rfl rfl
theorem q_2_211 : Cond.code yX3_branches cX3_branches 1 (some FieldType.boolean) ∈ e_wl := e_t2 (i := 211) rfl rfl
theorem q_2_212 : Cond.methodLink RX8 158 yX3_lowestOf ∈ e_wl := e_t2 (i := 212) rfl rfl
theorem q_2_213 : Cond.instanceMethod yX3_lowestOf ∈ e_wl := e_t2 (i := 213) rfl rfl
theorem q_2_214 : Cond.selects RX3 yX3_lowestOf yX3_lowestOf ∈ e_wl := e_t2 (i := 214) rfl rfl
theorem q_2_215 : Cond.code yX3_lowestOf cX3_lowestOf 3 (some FieldType.long) ∈ e_wl := e_t2 (i := 215) rfl rfl
theorem q_2_216 : Cond.constantLong RX8 161 (-1000000002) ∈ e_wl := e_t2 (i := 216) rfl rfl
theorem q_2_217 : Cond.methodLink RL 70 yX8_slopes ∈ e_wl := e_t2 (i := 217) rfl rfl
theorem q_2_218 : Cond.instanceMethod yX8_slopes ∈ e_wl := e_t2 (i := 218) rfl rfl
theorem q_2_219 : Cond.selects RX8 yX8_slopes yX8_slopes ∈ e_wl := e_t2 (i := 219) rfl rfl
theorem q_2_220 : Cond.code yX8_slopes cX8_slopes 5 (some FieldType.int) ∈ e_wl := e_t2 (i := 220) rfl rfl
theorem q_2_221 : Cond.methodLink RX8 163 yX6_slopeBits ∈ e_wl := e_t2 (i := 221) rfl rfl
theorem q_2_222 : Cond.instanceMethod yX6_slopeBits ∈ e_wl := e_t2 (i := 222) rfl rfl
theorem q_2_223 : Cond.selects RX6 yX6_slopeBits yX6_slopeBits ∈ e_wl := e_t2 (i := 223) rfl rfl
theorem q_2_224 : Cond.code yX6_slopeBits cX6_slopeBits 5 (some FieldType.int) ∈ e_wl := e_t2 (i := 224) rfl rfl
theorem q_2_225 : Cond.methodLink RX6 82 yX3_sumOnLine ∈ e_wl := e_t2 (i := 225) rfl rfl
theorem q_2_226 : Cond.instanceMethod yX3_sumOnLine ∈ e_wl := e_t2 (i := 226) rfl rfl
theorem q_2_227 : Cond.selects RX3 yX3_sumOnLine yX3_sumOnLine ∈ e_wl := e_t2 (i := 227) rfl rfl
theorem q_2_228 : Cond.code yX3_sumOnLine cX3_sumOnLine 6 (some FieldType.long) ∈ e_wl := e_t2 (i := 228) rfl rfl
theorem q_2_229 : Cond.methodLink RX6 86 yX7_lawGives ∈ e_wl := e_t2 (i := 229) rfl rfl
theorem q_2_230 : Cond.constant RX8 167 (-1000000002) ∈ e_wl := e_t2 (i := 230) rfl rfl
theorem q_2_231 : Cond.methodLink RL 74 yX8_often ∈ e_wl := e_t2 (i := 231) rfl rfl
theorem q_2_232 : Cond.instanceMethod yX8_often ∈ e_wl := e_t2 (i := 232) rfl rfl
theorem q_2_233 : Cond.selects RX8 yX8_often yX8_often ∈ e_wl := e_t2 (i := 233) rfl rfl
theorem q_2_234 : Cond.code yX8_often cX8_often 6 (some FieldType.int) ∈ e_wl := e_t2 (i := 234) rfl rfl
theorem q_2_235 : Cond.methodLink RX8 168 yX8_isSlope ∈ e_wl := e_t2 (i := 235) rfl rfl
theorem q_2_236 : Cond.static yX8_isSlope ∈ e_wl := e_t2 (i := 236) rfl rfl
theorem q_2_237 : Cond.code yX8_isSlope cX8_isSlope 1 (some FieldType.boolean) ∈ e_wl := e_t2 (i := 237) rfl rfl
theorem q_2_238 : Cond.methodLink RX8 171 yX6_oftenOf ∈ e_wl := e_t2 (i := 238) rfl rfl
theorem q_2_239 : Cond.instanceMethod yX6_oftenOf ∈ e_wl := e_t2 (i := 239) rfl rfl
theorem q_3_0 : Cond.selects RX6 yX6_oftenOf yX6_oftenOf ∈ e_wl := e_t3 (i := 0) rfl rfl
theorem q_3_1 : Cond.code yX6_oftenOf cX6_oftenOf 6 (some FieldType.int) ∈ e_wl := e_t3 (i := 1) rfl rfl
theorem q_3_2 : Cond.methodLink RX6 90 yX3_lowestOf ∈ e_wl := e_t3 (i := 2) rfl rfl
theorem q_3_3 : Cond.methodLink RX6 93 yX6_partBy ∈ e_wl := e_t3 (i := 3) rfl rfl
theorem q_3_5 : Cond.instanceMethod yX6_partBy ∈ e_wl := e_t3 (i := 5) rfl rfl
theorem q_3_6 : Cond.code yX6_partBy cX6_partBy 9 (some FieldType.boolean) ∈ e_wl := e_t3 (i := 6) rfl rfl
theorem q_3_7 : Cond.methodLink RL 78 yX8_blown ∈ e_wl := e_t3 (i := 7) rfl rfl
theorem q_3_8 : Cond.instanceMethod yX8_blown ∈ e_wl := e_t3 (i := 8) rfl rfl
theorem q_3_9 : Cond.selects RX8 yX8_blown yX8_blown ∈ e_wl := e_t3 (i := 9) rfl rfl
theorem q_3_10 : Cond.code yX8_blown cX8_blown 7 (some FieldType.int) ∈ e_wl := e_t3 (i := 10) rfl rfl
theorem q_3_11 : Cond.methodLink RX8 175 yX6_blow ∈ e_wl := e_t3 (i := 11) rfl rfl
theorem q_3_12 : Cond.instanceMethod yX6_blow ∈ e_wl := e_t3 (i := 12) rfl rfl
theorem q_3_13 : Cond.selects RX6 yX6_blow yX6_blow ∈ e_wl := e_t3 (i := 13) rfl rfl
theorem q_3_14 : Cond.code yX6_blow cX6_blow 5 (some (FieldType.object "BentBranches$Shape")) ∈ e_wl := e_t3 (i := 14) rfl rfl
theorem q_3_15 : Cond.methodLink RX6 97 yX3_least ∈ e_wl := e_t3 (i := 15) rfl rfl
theorem q_3_16 : Cond.methodLink RX6 101 yX3_branches ∈ e_wl := e_t3 (i := 16) rfl rfl
theorem q_3_17 : Cond.methodLink RX6 104 yX3_blowInto ∈ e_wl := e_t3 (i := 17) rfl rfl
theorem q_3_18 : Cond.instanceMethod yX3_blowInto ∈ e_wl := e_t3 (i := 18) rfl rfl
theorem q_3_19 : Cond.selects RX3 yX3_blowInto yX3_blowInto ∈ e_wl := e_t3 (i := 19) rfl rfl
theorem q_3_20 : Cond.code yX3_blowInto cX3_blowInto 6 none ∈ e_wl := e_t3 (i := 20) rfl rfl
theorem q_3_21 : Cond.methodLink RX3 29 yX3_clear ∈ e_wl := e_t3 (i := 21) rfl rfl
theorem q_3_22 : Cond.methodLink RX3 32 yX3_moveY ∈ e_wl := e_t3 (i := 22) rfl rfl
theorem q_3_23 : Cond.methodLink RL 82 yX8_tree ∈ e_wl := e_t3 (i := 23) rfl rfl
theorem q_3_24 : Cond.instanceMethod yX8_tree ∈ e_wl := e_t3 (i := 24) rfl rfl
theorem q_3_25 : Cond.selects RX8 yX8_tree yX8_tree ∈ e_wl := e_t3 (i := 25) rfl rfl
theorem q_3_26 : Cond.code yX8_tree cX8_tree 6 (some FieldType.int) ∈ e_wl := e_t3 (i := 26) rfl rfl
theorem q_3_27 : Cond.methodLink RX8 178 yX6_growTree ∈ e_wl := e_t3 (i := 27) rfl rfl
theorem q_3_28 : Cond.instanceMethod yX6_growTree ∈ e_wl := e_t3 (i := 28) rfl rfl
theorem q_3_29 : Cond.selects RX6 yX6_growTree yX6_growTree ∈ e_wl := e_t3 (i := 29) rfl rfl
theorem q_3_30 : Cond.code yX6_growTree cX6_growTree 2 none ∈ e_wl := e_t3 (i := 30) rfl rfl
theorem q_3_31 : Cond.methodLink RX6 108 yX6_clearTree ∈ e_wl := e_t3 (i := 31) rfl rfl
theorem q_3_33 : Cond.instanceMethod yX6_clearTree ∈ e_wl := e_t3 (i := 33) rfl rfl
theorem q_3_34 : Cond.code yX6_clearTree cX6_clearTree 1 none ∈ e_wl := e_t3 (i := 34) rfl rfl
theorem q_3_35 : Cond.methodLink RX6 111 yX6_grow ∈ e_wl := e_t3 (i := 35) rfl rfl
theorem q_3_36 : Cond.static yX6_grow ∈ e_wl := e_t3 (i := 36) rfl rfl
theorem q_3_37 : Cond.code yX6_grow cX6_grow 8 (some FieldType.boolean) ∈ e_wl := e_t3 (i := 37) rfl rfl
theorem q_3_38 : Cond.methodLink RX6 115 yX6_slopeBits ∈ e_wl := e_t3 (i := 38) rfl rfl
theorem q_3_39 : Cond.methodLink RX6 119 yX6_blow ∈ e_wl := e_t3 (i := 39) rfl rfl
theorem q_3_40 : Cond.methodLink RL 86 yX8_corner ∈ e_wl := e_t3 (i := 40) rfl rfl
theorem q_3_41 : Cond.instanceMethod yX8_corner ∈ e_wl := e_t3 (i := 41) rfl rfl
theorem q_3_42 : Cond.selects RX8 yX8_corner yX8_corner ∈ e_wl := e_t3 (i := 42) rfl rfl
theorem q_3_43 : Cond.code yX8_corner cX8_corner 6 (some FieldType.int) ∈ e_wl := e_t3 (i := 43) rfl rfl
theorem q_3_44 : Cond.methodLink RX8 191 yX3_leastX ∈ e_wl := e_t3 (i := 44) rfl rfl
theorem q_3_45 : Cond.instanceMethod yX3_leastX ∈ e_wl := e_t3 (i := 45) rfl rfl
theorem q_3_46 : Cond.selects RX3 yX3_leastX yX3_leastX ∈ e_wl := e_t3 (i := 46) rfl rfl
theorem q_3_47 : Cond.code yX3_leastX cX3_leastX 3 (some FieldType.int) ∈ e_wl := e_t3 (i := 47) rfl rfl
theorem q_3_48 : Cond.constant RX8 194 (-1000000005) ∈ e_wl := e_t3 (i := 48) rfl rfl
theorem q_3_49 : Cond.methodLink RL 90 yX8_power ∈ e_wl := e_t3 (i := 49) rfl rfl
theorem q_3_50 : Cond.instanceMethod yX8_power ∈ e_wl := e_t3 (i := 50) rfl rfl
theorem q_3_51 : Cond.selects RX8 yX8_power yX8_power ∈ e_wl := e_t3 (i := 51) rfl rfl
theorem q_3_52 : Cond.code yX8_power cX8_power 10 (some FieldType.int) ∈ e_wl := e_t3 (i := 52) rfl rfl
theorem q_3_53 : Cond.methodLink RX8 195 yX3_firstCorner ∈ e_wl := e_t3 (i := 53) rfl rfl
theorem q_3_54 : Cond.instanceMethod yX3_firstCorner ∈ e_wl := e_t3 (i := 54) rfl rfl
theorem q_3_55 : Cond.selects RX3 yX3_firstCorner yX3_firstCorner ∈ e_wl := e_t3 (i := 55) rfl rfl
theorem q_3_56 : Cond.code yX3_firstCorner cX3_firstCorner 2 (some FieldType.int) ∈ e_wl := e_t3 (i := 56) rfl rfl
theorem q_3_57 : Cond.methodLink RX3 36 yX3_leastX ∈ e_wl := e_t3 (i := 57) rfl rfl
theorem q_3_58 : Cond.methodLink RX8 198 yX3_steepestFrom ∈ e_wl := e_t3 (i := 58) rfl rfl
theorem q_3_59 : Cond.instanceMethod yX3_steepestFrom ∈ e_wl := e_t3 (i := 59) rfl rfl
theorem q_3_60 : Cond.selects RX3 yX3_steepestFrom yX3_steepestFrom ∈ e_wl := e_t3 (i := 60) rfl rfl
theorem q_3_61 : Cond.code yX3_steepestFrom cX3_steepestFrom 7 (some FieldType.int) ∈ e_wl := e_t3 (i := 61) rfl rfl
theorem q_3_62 : Cond.methodLink RX8 201 Lib.Math.abs.name ∈ e_wl := e_t3 (i := 62) rfl rfl
theorem q_3_63 : Cond.static Lib.Math.abs.name ∈ e_wl := e_t3 (i := 63) rfl rfl
theorem q_3_64 : Cond.code Lib.Math.abs.name cJ9_abs_0f7a4 1 (some FieldType.int) ∈ e_wl := e_t3 (i := 64) rfl rfl
theorem q_3_65 : Cond.methodLink RX8 206 yX8_greatestShared ∈ e_wl := e_t3 (i := 65) rfl rfl
theorem q_3_66 : Cond.static yX8_greatestShared ∈ e_wl := e_t3 (i := 66) rfl rfl
theorem q_3_67 : Cond.code yX8_greatestShared cX8_greatestShared 6 (some FieldType.int) ∈ e_wl := e_t3 (i := 67) rfl rfl
theorem q_3_68 : Cond.methodLink RL 94 yX8_line ∈ e_wl := e_t3 (i := 68) rfl rfl
theorem q_3_69 : Cond.instanceMethod yX8_line ∈ e_wl := e_t3 (i := 69) rfl rfl
theorem q_3_70 : Cond.selects RX8 yX8_line yX8_line ∈ e_wl := e_t3 (i := 70) rfl rfl
theorem q_3_71 : Cond.code yX8_line cX8_line 5 (some FieldType.int) ∈ e_wl := e_t3 (i := 71) rfl rfl
theorem q_3_72 : Cond.methodLink RX8 209 yX3_holdsToUpright ∈ e_wl := e_t3 (i := 72) rfl rfl
theorem q_3_73 : Cond.instanceMethod yX3_holdsToUpright ∈ e_wl := e_t3 (i := 73) rfl rfl
theorem q_3_74 : Cond.selects RX3 yX3_holdsToUpright yX3_holdsToUpright ∈ e_wl := e_t3 (i := 74) rfl rfl
theorem q_3_75 : Cond.code yX3_holdsToUpright cX3_holdsToUpright 2 (some FieldType.int) ∈ e_wl := e_t3 (i := 75) rfl rfl
theorem q_3_76 : Cond.methodLink RX8 212 yX3_holdsTo ∈ e_wl := e_t3 (i := 76) rfl rfl
theorem q_3_77 : Cond.instanceMethod yX3_holdsTo ∈ e_wl := e_t3 (i := 77) rfl rfl
theorem q_3_78 : Cond.selects RX3 yX3_holdsTo yX3_holdsTo ∈ e_wl := e_t3 (i := 78) rfl rfl
theorem q_3_79 : Cond.code yX3_holdsTo cX3_holdsTo 3 (some FieldType.int) ∈ e_wl := e_t3 (i := 79) rfl rfl
theorem q_3_80 : Cond.methodLink RX3 40 yX3_sumOnLine ∈ e_wl := e_t3 (i := 80) rfl rfl
theorem q_3_81 : Cond.methodLink RL 98 yX8_all ∈ e_wl := e_t3 (i := 81) rfl rfl
theorem q_3_82 : Cond.instanceMethod yX8_all ∈ e_wl := e_t3 (i := 82) rfl rfl
theorem q_3_83 : Cond.selects RX8 yX8_all yX8_all ∈ e_wl := e_t3 (i := 83) rfl rfl
theorem q_3_84 : Cond.code yX8_all cX8_all 4 (some FieldType.int) ∈ e_wl := e_t3 (i := 84) rfl rfl
theorem q_3_85 : Cond.methodLink RX8 215 yX6_walk ∈ e_wl := e_t3 (i := 85) rfl rfl
theorem q_3_86 : Cond.instanceMethod yX6_walk ∈ e_wl := e_t3 (i := 86) rfl rfl
theorem q_3_87 : Cond.selects RX6 yX6_walk yX6_walk ∈ e_wl := e_t3 (i := 87) rfl rfl
theorem q_3_88 : Cond.code yX6_walk cX6_walk 5 none ∈ e_wl := e_t3 (i := 88) rfl rfl
theorem q_3_89 : Cond.methodLink RX6 123 yX6_look ∈ e_wl := e_t3 (i := 89) rfl rfl
theorem q_3_90 : Cond.methodLink RX6 127 yX6_valueAt ∈ e_wl := e_t3 (i := 90) rfl rfl
theorem q_3_91 : Cond.methodLink RX6 130 yX6_stand ∈ e_wl := e_t3 (i := 91) rfl rfl
theorem q_3_92 : Cond.methodLink RX8 218 yX6_sumOfMarks ∈ e_wl := e_t3 (i := 92) rfl rfl
theorem q_3_93 : Cond.instanceMethod yX6_sumOfMarks ∈ e_wl := e_t3 (i := 93) rfl rfl
theorem q_3_94 : Cond.selects RX6 yX6_sumOfMarks yX6_sumOfMarks ∈ e_wl := e_t3 (i := 94) rfl rfl
theorem q_3_95 : Cond.code yX6_sumOfMarks cX6_sumOfMarks 5 (some FieldType.int) ∈ e_wl := e_t3 (i := 95) rfl rfl
theorem q_3_97 : Cond.methodLink RX8 221 yX6_placesWith ∈ e_wl := e_t3 (i := 97) rfl rfl
theorem q_3_98 : Cond.instanceMethod yX6_placesWith ∈ e_wl := e_t3 (i := 98) rfl rfl
theorem q_3_99 : Cond.selects RX6 yX6_placesWith yX6_placesWith ∈ e_wl := e_t3 (i := 99) rfl rfl
theorem q_3_100 : Cond.code yX6_placesWith cX6_placesWith 4 (some FieldType.int) ∈ e_wl := e_t3 (i := 100) rfl rfl
theorem q_3_101 : Cond.methodLink RL 102 yX8_on ∈ e_wl := e_t3 (i := 101) rfl rfl
theorem q_3_102 : Cond.instanceMethod yX8_on ∈ e_wl := e_t3 (i := 102) rfl rfl
theorem q_3_103 : Cond.selects RX8 yX8_on yX8_on ∈ e_wl := e_t3 (i := 103) rfl rfl
theorem q_3_104 : Cond.code yX8_on cX8_on 4 (some FieldType.int) ∈ e_wl := e_t3 (i := 104) rfl rfl
theorem q_3_105 : Cond.methodLink RX8 224 yX6_placeOn ∈ e_wl := e_t3 (i := 105) rfl rfl
theorem q_3_106 : Cond.instanceMethod yX6_placeOn ∈ e_wl := e_t3 (i := 106) rfl rfl
theorem q_3_107 : Cond.selects RX6 yX6_placeOn yX6_placeOn ∈ e_wl := e_t3 (i := 107) rfl rfl
theorem q_3_108 : Cond.code yX6_placeOn cX6_placeOn 4 (some FieldType.int) ∈ e_wl := e_t3 (i := 108) rfl rfl
theorem q_3_109 : Cond.methodLink RX6 139 yX6_toldPlace ∈ e_wl := e_t3 (i := 109) rfl rfl
theorem q_3_110 : Cond.static yX6_toldPlace ∈ e_wl := e_t3 (i := 110) rfl rfl
theorem q_3_111 : Cond.code yX6_toldPlace cX6_toldPlace 1 (some FieldType.int) ∈ e_wl := e_t3 (i := 111) rfl rfl
theorem q_3_112 : Cond.constant RX6 143 (-1000000005) ∈ e_wl := e_t3 (i := 112) rfl rfl
theorem q_3_113 : Cond.methodLink RL 106 yX8_genus ∈ e_wl := e_t3 (i := 113) rfl rfl
theorem q_3_114 : Cond.instanceMethod yX8_genus ∈ e_wl := e_t3 (i := 114) rfl rfl
theorem q_3_115 : Cond.selects RX8 yX8_genus yX8_genus ∈ e_wl := e_t3 (i := 115) rfl rfl
theorem q_3_116 : Cond.code yX8_genus cX8_genus 4 (some FieldType.int) ∈ e_wl := e_t3 (i := 116) rfl rfl
theorem q_3_117 : Cond.methodLink RX8 227 yX6_belongsOfKnots ∈ e_wl := e_t3 (i := 117) rfl rfl
theorem q_3_118 : Cond.instanceMethod yX6_belongsOfKnots ∈ e_wl := e_t3 (i := 118) rfl rfl
theorem q_3_119 : Cond.selects RX6 yX6_belongsOfKnots yX6_belongsOfKnots ∈ e_wl := e_t3 (i := 119) rfl rfl
theorem q_3_120 : Cond.code yX6_belongsOfKnots cX6_belongsOfKnots 2 (some FieldType.int) ∈ e_wl := e_t3 (i := 120) rfl rfl
theorem q_3_121 : Cond.methodLink RL 110 yX8_both ∈ e_wl := e_t3 (i := 121) rfl rfl
theorem q_3_122 : Cond.instanceMethod yX8_both ∈ e_wl := e_t3 (i := 122) rfl rfl
theorem q_3_123 : Cond.selects RX8 yX8_both yX8_both ∈ e_wl := e_t3 (i := 123) rfl rfl
theorem q_3_124 : Cond.code yX8_both cX8_both 5 (some FieldType.int) ∈ e_wl := e_t3 (i := 124) rfl rfl
theorem q_3_125 : Cond.methodLink RX8 230 yX6_setAside ∈ e_wl := e_t3 (i := 125) rfl rfl
theorem q_3_126 : Cond.instanceMethod yX6_setAside ∈ e_wl := e_t3 (i := 126) rfl rfl
theorem q_3_127 : Cond.selects RX6 yX6_setAside yX6_setAside ∈ e_wl := e_t3 (i := 127) rfl rfl
theorem q_3_128 : Cond.code yX6_setAside cX6_setAside 1 none ∈ e_wl := e_t3 (i := 128) rfl rfl
theorem q_3_129 : Cond.methodLink RX6 133 arraycopyName ∈ e_wl := e_t3 (i := 129) rfl rfl
theorem q_3_130 : Cond.static arraycopyName ∈ e_wl := e_t3 (i := 130) rfl rfl
theorem q_3_131 : Cond.native arraycopyName ∈ e_wl := e_t3 (i := 131) rfl rfl
theorem q_3_132 : Cond.methodLink RX8 233 yX6_placesOnBoth ∈ e_wl := e_t3 (i := 132) rfl rfl
theorem q_3_133 : Cond.instanceMethod yX6_placesOnBoth ∈ e_wl := e_t3 (i := 133) rfl rfl
theorem q_3_134 : Cond.selects RX6 yX6_placesOnBoth yX6_placesOnBoth ∈ e_wl := e_t3 (i := 134) rfl rfl
theorem q_3_135 : Cond.code yX6_placesOnBoth cX6_placesOnBoth 3 (some FieldType.int) ∈ e_wl := e_t3 (i := 135) rfl rfl
theorem q_3_136 : Cond.methodLink RL 114 yX8_feed ∈ e_wl := e_t3 (i := 136) rfl rfl
theorem q_3_137 : Cond.instanceMethod yX8_feed ∈ e_wl := e_t3 (i := 137) rfl rfl
theorem q_3_138 : Cond.selects RX8 yX8_feed yX8_feed ∈ e_wl := e_t3 (i := 138) rfl rfl
theorem q_3_139 : Cond.code yX8_feed cX8_feed 4 (some FieldType.int) ∈ e_wl := e_t3 (i := 139) rfl rfl
theorem q_3_140 : Cond.methodLink RX8 239 yX5_addNumber ∈ e_wl := e_t3 (i := 140) rfl rfl
theorem q_3_141 : Cond.instanceMethod yX5_addNumber ∈ e_wl := e_t3 (i := 141) rfl rfl
theorem q_3_142 : Cond.selects RX5 yX5_addNumber yX5_addNumber ∈ e_wl := e_t3 (i := 142) rfl rfl
theorem q_3_143 : Cond.code yX5_addNumber cX5_addNumber 3 none ∈ e_wl := e_t3 (i := 143) rfl rfl
theorem q_3_144 : Cond.methodLink RL 118 yX8_trim ∈ e_wl := e_t3 (i := 144) rfl rfl
theorem q_3_145 : Cond.instanceMethod yX8_trim ∈ e_wl := e_t3 (i := 145) rfl rfl
theorem q_3_146 : Cond.selects RX8 yX8_trim yX8_trim ∈ e_wl := e_t3 (i := 146) rfl rfl
theorem q_3_147 : Cond.code yX8_trim cX8_trim 2 (some FieldType.int) ∈ e_wl := e_t3 (i := 147) rfl rfl
theorem q_3_148 : Cond.methodLink RL 122 yX8_text ∈ e_wl := e_t3 (i := 148) rfl rfl
theorem q_3_149 : Cond.instanceMethod yX8_text ∈ e_wl := e_t3 (i := 149) rfl rfl
theorem q_3_150 : Cond.selects RX8 yX8_text yX8_text ∈ e_wl := e_t3 (i := 150) rfl rfl
theorem q_3_151 : Cond.code yX8_text cX8_text 2 (some FieldType.int) ∈ e_wl := e_t3 (i := 151) rfl rfl
theorem q_3_152 : Cond.methodLink RX8 242 yX5_read ∈ e_wl := e_t3 (i := 152) rfl rfl
theorem q_3_153 : Cond.instanceMethod yX5_read ∈ e_wl := e_t3 (i := 153) rfl rfl
theorem q_3_154 : Cond.selects RX5 yX5_read yX5_read ∈ e_wl := e_t3 (i := 154) rfl rfl
theorem q_3_155 : Cond.code yX5_read cX5_read 1 (some FieldType.int) ∈ e_wl := e_t3 (i := 155) rfl rfl
theorem q_3_156 : Cond.methodLink RX5 34 yX5_readKey ∈ e_wl := e_t3 (i := 156) rfl rfl
theorem q_3_158 : Cond.instanceMethod yX5_readKey ∈ e_wl := e_t3 (i := 158) rfl rfl
theorem q_3_159 : Cond.code yX5_readKey cX5_readKey 3 (some FieldType.int) ∈ e_wl := e_t3 (i := 159) rfl rfl
theorem q_3_160 : Cond.methodLink RX5 50 yX5_skipBlanks ∈ e_wl := e_t3 (i := 160) rfl rfl
theorem q_3_162 : Cond.instanceMethod yX5_skipBlanks ∈ e_wl := e_t3 (i := 162) rfl rfl
theorem q_3_163 : Cond.code yX5_skipBlanks cX5_skipBlanks 2 none ∈ e_wl := e_t3 (i := 163) rfl rfl
theorem q_3_164 : Cond.methodLink RX5 38 yX5_byteAt ∈ e_wl := e_t3 (i := 164) rfl rfl
theorem q_3_166 : Cond.instanceMethod yX5_byteAt ∈ e_wl := e_t3 (i := 166) rfl rfl
theorem q_3_167 : Cond.code yX5_byteAt cX5_byteAt 2 (some FieldType.int) ∈ e_wl := e_t3 (i := 167) rfl rfl
theorem q_3_171 : Cond.methodLink RX5 76 yX5_isWord ∈ e_wl := e_t3 (i := 171) rfl rfl
theorem q_3_173 : Cond.instanceMethod yX5_isWord ∈ e_wl := e_t3 (i := 173) rfl rfl
theorem q_3_174 : Cond.code yX5_isWord cX5_isWord 3 (some FieldType.boolean) ∈ e_wl := e_t3 (i := 174) rfl rfl
theorem q_3_175 : Cond.methodLink RX5 80 yJ0_length_8abf5 ∈ e_wl := e_t3 (i := 175) rfl rfl
theorem q_3_176 : Cond.instanceMethod yJ0_length_8abf5 ∈ e_wl := e_t3 (i := 176) rfl rfl
theorem q_3_177 : Cond.selects RJ0 yJ0_length_8abf5 yJ0_length_8abf5 ∈ e_wl := e_t3 (i := 177) rfl rfl
theorem q_3_178 : Cond.code yJ0_length_8abf5 cJ0_length_8abf5 1 (some FieldType.int) ∈ e_wl := e_t3 (i := 178) rfl rfl
theorem q_3_179 : Cond.methodLink RJ0 335 yJ0_coder_7d493 ∈ e_wl := e_t3 (i := 179) rfl rfl
theorem q_3_180 : Cond.instanceMethod yJ0_coder_7d493 ∈ e_wl := e_t3 (i := 180) rfl rfl
theorem q_3_181 : Cond.selects RJ0 yJ0_coder_7d493 yJ0_coder_7d493 ∈ e_wl := e_t3 (i := 181) rfl rfl
theorem q_3_182 : Cond.code yJ0_coder_7d493 cJ0_coder_7d493 1 (some FieldType.byte) ∈ e_wl := e_t3 (i := 182) rfl rfl
theorem q_3_183 : Cond.fieldLink RJ0 38 "java/lang/String" "COMPACT_STRINGS" "Z" ∈ e_wl := e_t3 (i := 183) rfl rfl
theorem q_3_185 : Cond.methodLink RX5 84 yJ0_charAt_5068e ∈ e_wl := e_t3 (i := 185) rfl rfl
theorem q_3_186 : Cond.instanceMethod yJ0_charAt_5068e ∈ e_wl := e_t3 (i := 186) rfl rfl
theorem q_3_187 : Cond.selects RJ0 yJ0_charAt_5068e yJ0_charAt_5068e ∈ e_wl := e_t3 (i := 187) rfl rfl
theorem q_3_188 : Cond.code yJ0_charAt_5068e cJ0_charAt_5068e 2 (some FieldType.char) ∈ e_wl := e_t3 (i := 188) rfl rfl
theorem q_3_189 : Cond.methodLink RJ0 492 yJ0_isLatin1_aae02 ∈ e_wl := e_t3 (i := 189) rfl rfl
theorem q_3_190 : Cond.instanceMethod yJ0_isLatin1_aae02 ∈ e_wl := e_t3 (i := 190) rfl rfl
theorem q_3_191 : Cond.selects RJ0 yJ0_isLatin1_aae02 yJ0_isLatin1_aae02 ∈ e_wl := e_t3 (i := 191) rfl rfl
theorem q_3_192 : Cond.code yJ0_isLatin1_aae02 cJ0_isLatin1_aae02 1 (some FieldType.boolean) ∈ e_wl := e_t3 (i := 192) rfl rfl
theorem q_3_193 : Cond.methodLink RJ0 495 yJ1_charAt_3b067 ∈ e_wl := e_t3 (i := 193) rfl rfl
theorem q_3_194 : Cond.static yJ1_charAt_3b067 ∈ e_wl := e_t3 (i := 194) rfl rfl
theorem q_3_195 : Cond.code yJ1_charAt_3b067 cJ1_charAt_3b067 2 (some FieldType.char) ∈ e_wl := e_t3 (i := 195) rfl rfl
theorem q_3_196 : Cond.methodLink RJ1 9 yJ0_checkIndex_df160 ∈ e_wl := e_t3 (i := 196) rfl rfl
theorem q_3_197 : Cond.static yJ0_checkIndex_df160 ∈ e_wl := e_t3 (i := 197) rfl rfl
theorem q_3_198 : Cond.code yJ0_checkIndex_df160 cJ0_checkIndex_df160 2 none ∈ e_wl := e_t3 (i := 198) rfl rfl
theorem q_3_199 : Cond.fieldLink RJ0 1053 "jdk/internal/util/Preconditions" "SIOOBE_FORMATTER" "Ljava/util/function/BiFunction;" ∈ e_wl := e_t3 (i := 199) rfl rfl
theorem q_3_201 : Cond.methodLink RJ0 1059 yJ3_checkIndex_8e157 ∈ e_wl := e_t3 (i := 201) rfl rfl
theorem q_3_202 : Cond.static yJ3_checkIndex_8e157 ∈ e_wl := e_t3 (i := 202) rfl rfl
theorem q_3_203 : Cond.code yJ3_checkIndex_8e157 cJ3_checkIndex_8e157 3 (some FieldType.int) ∈ e_wl := e_t3 (i := 203) rfl rfl
theorem q_3_204 : Cond.methodLink RJ0 498 yJ2_charAt_3b067 ∈ e_wl := e_t3 (i := 204) rfl rfl
theorem q_3_205 : Cond.static yJ2_charAt_3b067 ∈ e_wl := e_t3 (i := 205) rfl rfl
theorem q_3_206 : Cond.code yJ2_charAt_3b067 cJ2_charAt_3b067 2 (some FieldType.char) ∈ e_wl := e_t3 (i := 206) rfl rfl
theorem q_3_207 : Cond.methodLink RJ2 67 yJ2_checkIndex_2214a ∈ e_wl := e_t3 (i := 207) rfl rfl
theorem q_3_208 : Cond.static yJ2_checkIndex_2214a ∈ e_wl := e_t3 (i := 208) rfl rfl
theorem q_3_209 : Cond.code yJ2_checkIndex_2214a cJ2_checkIndex_2214a 2 none ∈ e_wl := e_t3 (i := 209) rfl rfl
theorem q_3_210 : Cond.methodLink RJ2 48 yJ2_length_9d52b ∈ e_wl := e_t3 (i := 210) rfl rfl
theorem q_3_211 : Cond.static yJ2_length_9d52b ∈ e_wl := e_t3 (i := 211) rfl rfl
theorem q_3_212 : Cond.code yJ2_length_9d52b cJ2_length_9d52b 1 (some FieldType.int) ∈ e_wl := e_t3 (i := 212) rfl rfl
theorem q_3_213 : Cond.methodLink RJ2 414 yJ0_checkIndex_df160 ∈ e_wl := e_t3 (i := 213) rfl rfl
theorem q_3_214 : Cond.methodLink RJ2 71 yJ2_getChar_3b067 ∈ e_wl := e_t3 (i := 214) rfl rfl
theorem q_3_215 : Cond.static yJ2_getChar_3b067 ∈ e_wl := e_t3 (i := 215) rfl rfl
theorem q_3_216 : Cond.code yJ2_getChar_3b067 cJ2_getChar_3b067 2 (some FieldType.char) ∈ e_wl := e_t3 (i := 216) rfl rfl
theorem q_3_217 : Cond.fieldLink RJ2 44 "java/lang/StringUTF16" "$assertionsDisabled" "Z" ∈ e_wl := e_t3 (i := 217) rfl rfl
theorem q_3_219 : Cond.fieldLink RJ2 59 "java/lang/StringUTF16" "HI_BYTE_SHIFT" "I" ∈ e_wl := e_t3 (i := 219) rfl rfl
theorem q_3_221 : Cond.fieldLink RJ2 63 "java/lang/StringUTF16" "LO_BYTE_SHIFT" "I" ∈ e_wl := e_t3 (i := 221) rfl rfl
theorem q_3_223 : Cond.methodLink RX5 88 yX5_isLetter ∈ e_wl := e_t3 (i := 223) rfl rfl
theorem q_3_224 : Cond.static yX5_isLetter ∈ e_wl := e_t3 (i := 224) rfl rfl
theorem q_3_225 : Cond.code yX5_isLetter cX5_isLetter 1 (some FieldType.boolean) ∈ e_wl := e_t3 (i := 225) rfl rfl
theorem q_3_226 : Cond.methodLink RX5 42 yX5_isDigit ∈ e_wl := e_t3 (i := 226) rfl rfl
theorem q_3_227 : Cond.static yX5_isDigit ∈ e_wl := e_t3 (i := 227) rfl rfl
theorem q_3_228 : Cond.code yX5_isDigit cX5_isDigit 1 (some FieldType.boolean) ∈ e_wl := e_t3 (i := 228) rfl rfl
theorem q_3_229 : Cond.methodLink RX5 46 yX5_readLevel ∈ e_wl := e_t3 (i := 229) rfl rfl
theorem q_3_230 : Cond.static yX5_readLevel ∈ e_wl := e_t3 (i := 230) rfl rfl
theorem q_3_231 : Cond.code yX5_readLevel cX5_readLevel 7 (some FieldType.boolean) ∈ e_wl := e_t3 (i := 231) rfl rfl
theorem q_3_232 : Cond.methodLink RX5 104 yX5_readPiece ∈ e_wl := e_t3 (i := 232) rfl rfl
theorem q_3_233 : Cond.static yX5_readPiece ∈ e_wl := e_t3 (i := 233) rfl rfl
theorem q_3_234 : Cond.code yX5_readPiece cX5_readPiece 5 (some FieldType.boolean) ∈ e_wl := e_t3 (i := 234) rfl rfl
theorem q_3_236 : Cond.methodLink RX5 112 yX5_nextOf ∈ e_wl := e_t3 (i := 236) rfl rfl
theorem q_3_238 : Cond.instanceMethod yX5_nextOf ∈ e_wl := e_t3 (i := 238) rfl rfl
theorem q_3_239 : Cond.code yX5_nextOf cX5_nextOf 3 (some FieldType.int) ∈ e_wl := e_t3 (i := 239) rfl rfl
theorem q_4_0 : Cond.methodLink RX5 91 yJ0_indexOf_0f7a4 ∈ e_wl := e_t4 (i := 0) rfl rfl
theorem q_4_1 : Cond.instanceMethod yJ0_indexOf_0f7a4 ∈ e_wl := e_t4 (i := 1) rfl rfl
theorem q_4_2 : Cond.selects RJ0 yJ0_indexOf_0f7a4 yJ0_indexOf_0f7a4 ∈ e_wl := e_t4 (i := 2) rfl rfl
theorem q_4_3 : Cond.code yJ0_indexOf_0f7a4 cJ0_indexOf_0f7a4 2 (some FieldType.int) ∈ e_wl := e_t4 (i := 3) rfl rfl
theorem q_4_4 : Cond.methodLink RJ0 633 yJ0_indexOf_7cf53 ∈ e_wl := e_t4 (i := 4) rfl rfl
theorem q_4_5 : Cond.instanceMethod yJ0_indexOf_7cf53 ∈ e_wl := e_t4 (i := 5) rfl rfl
theorem q_4_6 : Cond.selects RJ0 yJ0_indexOf_7cf53 yJ0_indexOf_7cf53 ∈ e_wl := e_t4 (i := 6) rfl rfl
theorem q_4_7 : Cond.code yJ0_indexOf_7cf53 cJ0_indexOf_7cf53 3 (some FieldType.int) ∈ e_wl := e_t4 (i := 7) rfl rfl
theorem q_4_8 : Cond.methodLink RJ0 505 yJ0_length_8abf5 ∈ e_wl := e_t4 (i := 8) rfl rfl
theorem q_4_9 : Cond.methodLink RJ0 637 yJ1_indexOf_4cfef ∈ e_wl := e_t4 (i := 9) rfl rfl
theorem q_4_10 : Cond.static yJ1_indexOf_4cfef ∈ e_wl := e_t4 (i := 10) rfl rfl
theorem q_4_11 : Cond.code yJ1_indexOf_4cfef cJ1_indexOf_4cfef 4 (some FieldType.int) ∈ e_wl := e_t4 (i := 11) rfl rfl
theorem q_4_12 : Cond.methodLink RJ1 88 yJ1_canEncode_9a6ad ∈ e_wl := e_t4 (i := 12) rfl rfl
theorem q_4_13 : Cond.static yJ1_canEncode_9a6ad ∈ e_wl := e_t4 (i := 13) rfl rfl
theorem q_4_14 : Cond.code yJ1_canEncode_9a6ad cJ1_canEncode_9a6ad 1 (some FieldType.boolean) ∈ e_wl := e_t4 (i := 14) rfl rfl
theorem q_4_15 : Cond.methodLink RJ1 92 Lib.Math.max.name ∈ e_wl := e_t4 (i := 15) rfl rfl
theorem q_4_16 : Cond.methodLink RJ1 38 Lib.Math.min.name ∈ e_wl := e_t4 (i := 16) rfl rfl
theorem q_4_17 : Cond.methodLink RJ1 95 yJ1_indexOfChar_4cfef ∈ e_wl := e_t4 (i := 17) rfl rfl
theorem q_4_18 : Cond.static yJ1_indexOfChar_4cfef ∈ e_wl := e_t4 (i := 18) rfl rfl
theorem q_4_19 : Cond.code yJ1_indexOfChar_4cfef cJ1_indexOfChar_4cfef 6 (some FieldType.int) ∈ e_wl := e_t4 (i := 19) rfl rfl
theorem q_4_20 : Cond.methodLink RJ0 640 yJ2_indexOf_4cfef ∈ e_wl := e_t4 (i := 20) rfl rfl
theorem q_4_21 : Cond.static yJ2_indexOf_4cfef ∈ e_wl := e_t4 (i := 21) rfl rfl
theorem q_4_22 : Cond.code yJ2_indexOf_4cfef cJ2_indexOf_4cfef 4 (some FieldType.int) ∈ e_wl := e_t4 (i := 22) rfl rfl
theorem q_4_23 : Cond.methodLink RJ2 224 Lib.Math.max.name ∈ e_wl := e_t4 (i := 23) rfl rfl
theorem q_4_24 : Cond.methodLink RJ2 183 Lib.Math.min.name ∈ e_wl := e_t4 (i := 24) rfl rfl
theorem q_4_25 : Cond.constant RJ2 227 (65536) ∈ e_wl := e_t4 (i := 25) rfl rfl
theorem q_4_26 : Cond.methodLink RJ2 228 yJ2_indexOfChar_4cfef ∈ e_wl := e_t4 (i := 26) rfl rfl
theorem q_4_27 : Cond.static yJ2_indexOfChar_4cfef ∈ e_wl := e_t4 (i := 27) rfl rfl
theorem q_4_28 : Cond.code yJ2_indexOfChar_4cfef cJ2_indexOfChar_4cfef 4 (some FieldType.int) ∈ e_wl := e_t4 (i := 28) rfl rfl
theorem q_4_29 : Cond.methodLink RJ2 96 yJ2_checkBoundsBeginEnd_d044e ∈ e_wl := e_t4 (i := 29) rfl rfl
theorem q_4_30 : Cond.static yJ2_checkBoundsBeginEnd_d044e ∈ e_wl := e_t4 (i := 30) rfl rfl
theorem q_4_31 : Cond.code yJ2_checkBoundsBeginEnd_d044e cJ2_checkBoundsBeginEnd_d044e 3 none ∈ e_wl := e_t4 (i := 31) rfl rfl
theorem q_4_32 : Cond.methodLink RJ2 241 yJ0_checkBoundsBeginEnd_23922 ∈ e_wl := e_t4 (i := 32) rfl rfl
theorem q_4_33 : Cond.static yJ0_checkBoundsBeginEnd_23922 ∈ e_wl := e_t4 (i := 33) rfl rfl
theorem q_4_34 : Cond.code yJ0_checkBoundsBeginEnd_23922 cJ0_checkBoundsBeginEnd_23922 3 none ∈ e_wl := e_t4 (i := 34) rfl rfl
theorem q_4_35 : Cond.methodLink RJ0 1062 yJ3_checkFromToIndex_8c36e ∈ e_wl := e_t4 (i := 35) rfl rfl
theorem q_4_36 : Cond.static yJ3_checkFromToIndex_8c36e ∈ e_wl := e_t4 (i := 36) rfl rfl
theorem q_4_37 : Cond.code yJ3_checkFromToIndex_8c36e cJ3_checkFromToIndex_8c36e 4 (some FieldType.int) ∈ e_wl := e_t4 (i := 37) rfl rfl
theorem q_4_38 : Cond.methodLink RJ2 244 yJ2_indexOfCharUnsafe_4cfef ∈ e_wl := e_t4 (i := 38) rfl rfl
theorem q_4_39 : Cond.static yJ2_indexOfCharUnsafe_4cfef ∈ e_wl := e_t4 (i := 39) rfl rfl
theorem q_4_40 : Cond.code yJ2_indexOfCharUnsafe_4cfef cJ2_indexOfCharUnsafe_4cfef 5 (some FieldType.int) ∈ e_wl := e_t4 (i := 40) rfl rfl
theorem q_4_41 : Cond.methodLink RJ2 232 yJ2_indexOfSupplementary_4cfef ∈ e_wl := e_t4 (i := 41) rfl rfl
theorem q_4_42 : Cond.static yJ2_indexOfSupplementary_4cfef ∈ e_wl := e_t4 (i := 42) rfl rfl
theorem q_4_43 : Cond.code yJ2_indexOfSupplementary_4cfef cJ2_indexOfSupplementary_4cfef 7 (some FieldType.int) ∈ e_wl := e_t4 (i := 43) rfl rfl
theorem q_4_44 : Cond.methodLink RJ2 164 yJ11_isValidCodePoint_9a6ad ∈ e_wl := e_t4 (i := 44) rfl rfl
theorem q_4_45 : Cond.static yJ11_isValidCodePoint_9a6ad ∈ e_wl := e_t4 (i := 45) rfl rfl
theorem q_4_46 : Cond.code yJ11_isValidCodePoint_9a6ad cJ11_isValidCodePoint_9a6ad 2 (some FieldType.boolean) ∈ e_wl := e_t4 (i := 46) rfl rfl
theorem q_4_47 : Cond.methodLink RJ2 157 yJ11_highSurrogate_5068e ∈ e_wl := e_t4 (i := 47) rfl rfl
theorem q_4_48 : Cond.static yJ11_highSurrogate_5068e ∈ e_wl := e_t4 (i := 48) rfl rfl
theorem q_4_49 : Cond.code yJ11_highSurrogate_5068e cJ11_highSurrogate_5068e 1 (some FieldType.char) ∈ e_wl := e_t4 (i := 49) rfl rfl
theorem q_4_50 : Cond.constant RJ11 110 (55232) ∈ e_wl := e_t4 (i := 50) rfl rfl
theorem q_4_51 : Cond.methodLink RJ2 161 yJ11_lowSurrogate_5068e ∈ e_wl := e_t4 (i := 51) rfl rfl
theorem q_4_52 : Cond.static yJ11_lowSurrogate_5068e ∈ e_wl := e_t4 (i := 52) rfl rfl
theorem q_4_53 : Cond.code yJ11_lowSurrogate_5068e cJ11_lowSurrogate_5068e 1 (some FieldType.char) ∈ e_wl := e_t4 (i := 53) rfl rfl
theorem q_4_54 : Cond.constant RJ11 76 (56320) ∈ e_wl := e_t4 (i := 54) rfl rfl
theorem q_4_55 : Cond.methodLink RX5 122 yX5_readInner ∈ e_wl := e_t4 (i := 55) rfl rfl
theorem q_4_56 : Cond.static yX5_readInner ∈ e_wl := e_t4 (i := 56) rfl rfl
theorem q_4_57 : Cond.code yX5_readInner cX5_readInner 4 (some FieldType.boolean) ∈ e_wl := e_t4 (i := 57) rfl rfl
theorem q_4_58 : Cond.methodLink RX5 125 yX5_readNumber ∈ e_wl := e_t4 (i := 58) rfl rfl
theorem q_4_60 : Cond.instanceMethod yX5_readNumber ∈ e_wl := e_t4 (i := 60) rfl rfl
theorem q_4_61 : Cond.code yX5_readNumber cX5_readNumber 3 (some FieldType.boolean) ∈ e_wl := e_t4 (i := 61) rfl rfl
theorem q_4_62 : Cond.methodLink RX5 116 yX5_write ∈ e_wl := e_t4 (i := 62) rfl rfl
theorem q_4_64 : Cond.instanceMethod yX5_write ∈ e_wl := e_t4 (i := 64) rfl rfl
theorem q_4_65 : Cond.code yX5_write cX5_write 2 none ∈ e_wl := e_t4 (i := 65) rfl rfl
theorem q_4_66 : Cond.methodLink RX5 129 yX5_readName ∈ e_wl := e_t4 (i := 66) rfl rfl
theorem q_4_68 : Cond.instanceMethod yX5_readName ∈ e_wl := e_t4 (i := 68) rfl rfl
theorem q_4_69 : Cond.code yX5_readName cX5_readName 3 (some FieldType.boolean) ∈ e_wl := e_t4 (i := 69) rfl rfl
theorem q_4_74 : Cond.methodLink RX5 108 yX5_signsOf ∈ e_wl := e_t4 (i := 74) rfl rfl
theorem q_4_75 : Cond.static yX5_signsOf ∈ e_wl := e_t4 (i := 75) rfl rfl
theorem q_4_76 : Cond.code yX5_signsOf cX5_signsOf 1 (some (FieldType.object "java/lang/String")) ∈ e_wl := e_t4 (i := 76) rfl rfl
theorem q_4_82 : Cond.methodLink RX8 248 yX5_law ∈ e_wl := e_t4 (i := 82) rfl rfl
theorem q_4_83 : Cond.instanceMethod yX5_law ∈ e_wl := e_t4 (i := 83) rfl rfl
theorem q_4_84 : Cond.selects RX5 yX5_law yX5_law ∈ e_wl := e_t4 (i := 84) rfl rfl
theorem q_4_85 : Cond.code yX5_law cX5_law 1 (some (FieldType.object "BentBranches$Law")) ∈ e_wl := e_t4 (i := 85) rfl rfl
theorem q_4_86 : Cond.classLink RX5 53 RX1 ∈ e_wl := e_t4 (i := 86) rfl rfl
theorem q_4_87 : Cond.instantiable RX1 3 ∈ e_wl := e_t4 (i := 87) rfl rfl
theorem q_4_88 : Cond.methodLink RX5 55 Lib.Math.max.name ∈ e_wl := e_t4 (i := 88) rfl rfl
theorem q_4_89 : Cond.methodLink RX5 61 yJ7_copyOf_59c91 ∈ e_wl := e_t4 (i := 89) rfl rfl
theorem q_4_90 : Cond.static yJ7_copyOf_59c91 ∈ e_wl := e_t4 (i := 90) rfl rfl
theorem q_4_91 : Cond.code yJ7_copyOf_59c91 cJ7_copyOf_59c91 3 (some (FieldType.array FieldType.int)) ∈ e_wl := e_t4 (i := 91) rfl rfl
theorem q_4_92 : Cond.methodLink RJ7 316 ({ cls := "[I", name := "clone", desc := "()Ljava/lang/Object;" } : Jvm.MethodName) ∈ e_wl := e_t4 (i := 92) rfl rfl
theorem q_4_94 : Cond.native ({ cls := "java/lang/Object", name := "clone", desc := "()Ljava/lang/Object;" } : Jvm.MethodName) ∈ e_wl := e_t4 (i := 94) rfl rfl
theorem q_4_95 : Cond.instanceMethod ({ cls := "java/lang/Object", name := "clone", desc := "()Ljava/lang/Object;" } : Jvm.MethodName) ∈ e_wl := e_t4 (i := 95) rfl rfl
theorem q_4_96 : Cond.selects "[I" ({ cls := "[I", name := "clone", desc := "()Ljava/lang/Object;" } : Jvm.MethodName) ({ cls := "java/lang/Object", name := "clone", desc := "()Ljava/lang/Object;" } : Jvm.MethodName) ∈ e_wl := e_t4 (i := 96) rfl rfl
theorem q_4_98 : Cond.classLink RJ7 317 "[I" ∈ e_wl := e_t4 (i := 98) rfl rfl
theorem q_4_99 : Cond.methodLink RJ7 304 Lib.Math.min.name ∈ e_wl := e_t4 (i := 99) rfl rfl
theorem q_4_100 : Cond.methodLink RJ7 150 arraycopyName ∈ e_wl := e_t4 (i := 100) rfl rfl
theorem q_4_101 : Cond.methodLink RX5 67 yX1_init ∈ e_wl := e_t4 (i := 101) rfl rfl
theorem q_4_102 : Cond.instanceMethod yX1_init ∈ e_wl := e_t4 (i := 102) rfl rfl
theorem q_4_103 : Cond.code yX1_init cX1_init 4 none ∈ e_wl := e_t4 (i := 103) rfl rfl
theorem q_4_104 : Cond.methodLink RX1 1 objectInit ∈ e_wl := e_t4 (i := 104) rfl rfl
theorem q_4_105 : Cond.fieldLink RX1 7 "BentBranches$Law" "key" "I" ∈ e_wl := e_t4 (i := 105) rfl rfl
theorem q_4_106 : Cond.fieldLink RX7 55 "BentBranches$Law" "key" "I" ∈ e_wl := e_t4 (i := 106) rfl rfl
theorem q_4_107 : Cond.fieldLink RX8 260 "BentBranches$Law" "key" "I" ∈ e_wl := e_t4 (i := 107) rfl rfl
theorem q_4_108 : Cond.fieldLink RX1 13 "BentBranches$Law" "leaves" "I" ∈ e_wl := e_t4 (i := 108) rfl rfl
theorem q_4_109 : Cond.fieldLink RX8 265 "BentBranches$Law" "leaves" "I" ∈ e_wl := e_t4 (i := 109) rfl rfl
theorem q_4_110 : Cond.fieldLink RX1 16 "BentBranches$Law" "code" "[I" ∈ e_wl := e_t4 (i := 110) rfl rfl
theorem q_4_111 : Cond.laysFinal "BentBranches$Law" "BentBranches$Law" "key" "I" ∈ e_wl := e_t4 (i := 111) rfl rfl
theorem q_4_113 : Cond.laysFinal "BentBranches$Law" "BentBranches$Law" "leaves" "I" ∈ e_wl := e_t4 (i := 113) rfl rfl
theorem q_4_115 : Cond.laysFinal "BentBranches$Law" "BentBranches$Law" "code" "[I" ∈ e_wl := e_t4 (i := 115) rfl rfl
theorem q_4_118 : Cond.arrayClass FieldType.byte ∈ e_wl := e_t4 (i := 118) rfl rfl
theorem q_4_119 : Cond.methodLink RX8 252 yX7_addLaw ∈ e_wl := e_t4 (i := 119) rfl rfl
theorem q_4_120 : Cond.instanceMethod yX7_addLaw ∈ e_wl := e_t4 (i := 120) rfl rfl
theorem q_4_121 : Cond.selects RX7 yX7_addLaw yX7_addLaw ∈ e_wl := e_t4 (i := 121) rfl rfl
theorem q_4_122 : Cond.code yX7_addLaw cX7_addLaw 2 (some FieldType.int) ∈ e_wl := e_t4 (i := 122) rfl rfl
theorem q_4_123 : Cond.constant RX7 58 (-1000000003) ∈ e_wl := e_t4 (i := 123) rfl rfl
theorem q_4_124 : Cond.methodLink RL 127 yX8_textTold ∈ e_wl := e_t4 (i := 124) rfl rfl
theorem q_4_125 : Cond.instanceMethod yX8_textTold ∈ e_wl := e_t4 (i := 125) rfl rfl
theorem q_4_126 : Cond.selects RX8 yX8_textTold yX8_textTold ∈ e_wl := e_t4 (i := 126) rfl rfl
theorem q_4_127 : Cond.code yX8_textTold cX8_textTold 4 (some FieldType.int) ∈ e_wl := e_t4 (i := 127) rfl rfl
theorem q_4_128 : Cond.methodLink RX8 256 yX7_lawAt ∈ e_wl := e_t4 (i := 128) rfl rfl
theorem q_4_129 : Cond.methodLink RL 131 yX8_why ∈ e_wl := e_t4 (i := 129) rfl rfl
theorem q_4_130 : Cond.instanceMethod yX8_why ∈ e_wl := e_t4 (i := 130) rfl rfl
theorem q_4_131 : Cond.selects RX8 yX8_why yX8_why ∈ e_wl := e_t4 (i := 131) rfl rfl
theorem q_4_132 : Cond.code yX8_why cX8_why 3 (some FieldType.int) ∈ e_wl := e_t4 (i := 132) rfl rfl
theorem q_4_133 : Cond.methodLink RX8 268 yX7_lastLawOf ∈ e_wl := e_t4 (i := 133) rfl rfl
theorem q_4_134 : Cond.methodLink RL 135 yX8_sheet ∈ e_wl := e_t4 (i := 134) rfl rfl
theorem q_4_135 : Cond.instanceMethod yX8_sheet ∈ e_wl := e_t4 (i := 135) rfl rfl
theorem q_4_136 : Cond.selects RX8 yX8_sheet yX8_sheet ∈ e_wl := e_t4 (i := 136) rfl rfl
theorem q_4_137 : Cond.code yX8_sheet cX8_sheet 5 (some FieldType.int) ∈ e_wl := e_t4 (i := 137) rfl rfl
theorem q_4_138 : Cond.methodLink RX8 271 yX8_sheetOf ∈ e_wl := e_t4 (i := 138) rfl rfl
theorem q_4_140 : Cond.instanceMethod yX8_sheetOf ∈ e_wl := e_t4 (i := 140) rfl rfl
theorem q_4_141 : Cond.code yX8_sheetOf cX8_sheetOf 2 (some (FieldType.object "BentBranches$Row")) ∈ e_wl := e_t4 (i := 141) rfl rfl
theorem q_4_142 : Cond.methodLink RX8 275 yX2_becomesEmpty ∈ e_wl := e_t4 (i := 142) rfl rfl
theorem q_4_143 : Cond.instanceMethod yX2_becomesEmpty ∈ e_wl := e_t4 (i := 143) rfl rfl
theorem q_4_144 : Cond.selects RX2 yX2_becomesEmpty yX2_becomesEmpty ∈ e_wl := e_t4 (i := 144) rfl rfl
theorem q_4_145 : Cond.code yX2_becomesEmpty cX2_becomesEmpty 3 none ∈ e_wl := e_t4 (i := 145) rfl rfl
theorem q_4_146 : Cond.methodLink RX2 22 yJ7_fill_53178 ∈ e_wl := e_t4 (i := 146) rfl rfl
theorem q_4_147 : Cond.constant RX8 278 (-1000000014) ∈ e_wl := e_t4 (i := 147) rfl rfl
theorem q_4_148 : Cond.methodLink RL 139 yX8_mark ∈ e_wl := e_t4 (i := 148) rfl rfl
theorem q_4_149 : Cond.instanceMethod yX8_mark ∈ e_wl := e_t4 (i := 149) rfl rfl
theorem q_4_150 : Cond.selects RX8 yX8_mark yX8_mark ∈ e_wl := e_t4 (i := 150) rfl rfl
theorem q_4_151 : Cond.code yX8_mark cX8_mark 5 (some FieldType.int) ∈ e_wl := e_t4 (i := 151) rfl rfl
theorem q_4_152 : Cond.constant RX8 282 (-1000000011) ∈ e_wl := e_t4 (i := 152) rfl rfl
theorem q_4_153 : Cond.methodLink RX8 283 yX2_hasPlace ∈ e_wl := e_t4 (i := 153) rfl rfl
theorem q_4_154 : Cond.instanceMethod yX2_hasPlace ∈ e_wl := e_t4 (i := 154) rfl rfl
theorem q_4_155 : Cond.selects RX2 yX2_hasPlace yX2_hasPlace ∈ e_wl := e_t4 (i := 155) rfl rfl
theorem q_4_156 : Cond.code yX2_hasPlace cX2_hasPlace 2 (some FieldType.boolean) ∈ e_wl := e_t4 (i := 156) rfl rfl
theorem q_4_157 : Cond.constant RX8 286 (-1000000013) ∈ e_wl := e_t4 (i := 157) rfl rfl
theorem q_4_158 : Cond.methodLink RX8 287 yX2_setPlace ∈ e_wl := e_t4 (i := 158) rfl rfl
theorem q_4_159 : Cond.instanceMethod yX2_setPlace ∈ e_wl := e_t4 (i := 159) rfl rfl
theorem q_4_160 : Cond.selects RX2 yX2_setPlace yX2_setPlace ∈ e_wl := e_t4 (i := 160) rfl rfl
theorem q_4_161 : Cond.code yX2_setPlace cX2_setPlace 3 none ∈ e_wl := e_t4 (i := 161) rfl rfl
theorem q_4_162 : Cond.methodLink RX2 34 yX2_hasPlace ∈ e_wl := e_t4 (i := 162) rfl rfl
theorem q_4_163 : Cond.constant RX8 290 (-99999) ∈ e_wl := e_t4 (i := 163) rfl rfl
theorem q_4_164 : Cond.constant RX8 291 (99999) ∈ e_wl := e_t4 (i := 164) rfl rfl
theorem q_4_165 : Cond.methodLink RL 143 yX8_pour ∈ e_wl := e_t4 (i := 165) rfl rfl
theorem q_4_166 : Cond.instanceMethod yX8_pour ∈ e_wl := e_t4 (i := 166) rfl rfl
theorem q_4_167 : Cond.selects RX8 yX8_pour yX8_pour ∈ e_wl := e_t4 (i := 167) rfl rfl
theorem q_4_168 : Cond.code yX8_pour cX8_pour 8 (some FieldType.int) ∈ e_wl := e_t4 (i := 168) rfl rfl
theorem q_4_169 : Cond.methodLink RX8 295 yX2_placeAt ∈ e_wl := e_t4 (i := 169) rfl rfl
theorem q_4_170 : Cond.instanceMethod yX2_placeAt ∈ e_wl := e_t4 (i := 170) rfl rfl
theorem q_4_171 : Cond.selects RX2 yX2_placeAt yX2_placeAt ∈ e_wl := e_t4 (i := 171) rfl rfl
theorem q_4_172 : Cond.code yX2_placeAt cX2_placeAt 2 (some FieldType.int) ∈ e_wl := e_t4 (i := 172) rfl rfl
theorem q_4_173 : Cond.methodLink RL 147 yX8_copy ∈ e_wl := e_t4 (i := 173) rfl rfl
theorem q_4_174 : Cond.instanceMethod yX8_copy ∈ e_wl := e_t4 (i := 174) rfl rfl
theorem q_4_175 : Cond.selects RX8 yX8_copy yX8_copy ∈ e_wl := e_t4 (i := 175) rfl rfl
theorem q_4_176 : Cond.code yX8_copy cX8_copy 8 (some FieldType.int) ∈ e_wl := e_t4 (i := 176) rfl rfl
theorem q_4_177 : Cond.methodLink RX8 298 yX2_hasRun ∈ e_wl := e_t4 (i := 177) rfl rfl
theorem q_4_178 : Cond.instanceMethod yX2_hasRun ∈ e_wl := e_t4 (i := 178) rfl rfl
theorem q_4_179 : Cond.selects RX2 yX2_hasRun yX2_hasRun ∈ e_wl := e_t4 (i := 179) rfl rfl
theorem q_4_180 : Cond.code yX2_hasRun cX2_hasRun 3 (some FieldType.boolean) ∈ e_wl := e_t4 (i := 180) rfl rfl
theorem q_4_181 : Cond.methodLink RX8 304 arraycopyName ∈ e_wl := e_t4 (i := 181) rfl rfl
theorem q_4_182 : Cond.methodLink RL 152 yX8_lay ∈ e_wl := e_t4 (i := 182) rfl rfl
theorem q_4_183 : Cond.instanceMethod yX8_lay ∈ e_wl := e_t4 (i := 183) rfl rfl
theorem q_4_184 : Cond.selects RX8 yX8_lay yX8_lay ∈ e_wl := e_t4 (i := 184) rfl rfl
theorem q_4_185 : Cond.code yX8_lay cX8_lay 6 (some FieldType.int) ∈ e_wl := e_t4 (i := 185) rfl rfl
theorem q_4_186 : Cond.methodLink RX8 310 yX8_slotOf ∈ e_wl := e_t4 (i := 186) rfl rfl
theorem q_4_188 : Cond.instanceMethod yX8_slotOf ∈ e_wl := e_t4 (i := 188) rfl rfl
theorem q_4_189 : Cond.code yX8_slotOf cX8_slotOf 2 (some (FieldType.object "BentBranches$Slot")) ∈ e_wl := e_t4 (i := 189) rfl rfl
theorem q_4_190 : Cond.methodLink RX8 318 yX0_becomes ∈ e_wl := e_t4 (i := 190) rfl rfl
theorem q_4_191 : Cond.instanceMethod yX0_becomes ∈ e_wl := e_t4 (i := 191) rfl rfl
theorem q_4_192 : Cond.selects RX0 yX0_becomes yX0_becomes ∈ e_wl := e_t4 (i := 192) rfl rfl
theorem q_4_193 : Cond.code yX0_becomes cX0_becomes 2 none ∈ e_wl := e_t4 (i := 193) rfl rfl
theorem q_4_194 : Cond.methodLink RX0 33 arraycopyName ∈ e_wl := e_t4 (i := 194) rfl rfl
theorem q_4_195 : Cond.methodLink RX8 325 yX2_becomes ∈ e_wl := e_t4 (i := 195) rfl rfl
theorem q_4_196 : Cond.instanceMethod yX2_becomes ∈ e_wl := e_t4 (i := 196) rfl rfl
theorem q_4_197 : Cond.selects RX2 yX2_becomes yX2_becomes ∈ e_wl := e_t4 (i := 197) rfl rfl
theorem q_4_198 : Cond.code yX2_becomes cX2_becomes 2 none ∈ e_wl := e_t4 (i := 198) rfl rfl
theorem q_4_199 : Cond.methodLink RX2 28 arraycopyName ∈ e_wl := e_t4 (i := 199) rfl rfl
theorem q_4_200 : Cond.methodLink RL 156 yX8_ask ∈ e_wl := e_t4 (i := 200) rfl rfl
theorem q_4_201 : Cond.instanceMethod yX8_ask ∈ e_wl := e_t4 (i := 201) rfl rfl
theorem q_4_202 : Cond.selects RX8 yX8_ask yX8_ask ∈ e_wl := e_t4 (i := 202) rfl rfl
theorem q_4_203 : Cond.code yX8_ask cX8_ask 4 (some FieldType.int) ∈ e_wl := e_t4 (i := 203) rfl rfl
theorem q_4_204 : Cond.methodLink RL 160 yX8_item ∈ e_wl := e_t4 (i := 204) rfl rfl
theorem q_4_205 : Cond.instanceMethod yX8_item ∈ e_wl := e_t4 (i := 205) rfl rfl
theorem q_4_206 : Cond.selects RX8 yX8_item yX8_item ∈ e_wl := e_t4 (i := 206) rfl rfl
theorem q_4_207 : Cond.code yX8_item cX8_item 5 (some FieldType.int) ∈ e_wl := e_t4 (i := 207) rfl rfl
theorem q_4_208 : Cond.methodLink RL 164 yX8_rest ∈ e_wl := e_t4 (i := 208) rfl rfl
theorem q_4_209 : Cond.instanceMethod yX8_rest ∈ e_wl := e_t4 (i := 209) rfl rfl
theorem q_4_210 : Cond.selects RX8 yX8_rest yX8_rest ∈ e_wl := e_t4 (i := 210) rfl rfl
theorem q_4_211 : Cond.code yX8_rest cX8_rest 4 (some FieldType.int) ∈ e_wl := e_t4 (i := 211) rfl rfl
theorem q_4_212 : Cond.methodLink RL 168 yX8_tell ∈ e_wl := e_t4 (i := 212) rfl rfl
theorem q_4_213 : Cond.instanceMethod yX8_tell ∈ e_wl := e_t4 (i := 213) rfl rfl
theorem q_4_214 : Cond.selects RX8 yX8_tell yX8_tell ∈ e_wl := e_t4 (i := 214) rfl rfl
theorem q_4_215 : Cond.code yX8_tell cX8_tell 2 (some FieldType.int) ∈ e_wl := e_t4 (i := 215) rfl rfl
theorem q_4_216 : Cond.methodLink RL 172 yX8_check ∈ e_wl := e_t4 (i := 216) rfl rfl
theorem q_4_217 : Cond.instanceMethod yX8_check ∈ e_wl := e_t4 (i := 217) rfl rfl
theorem q_4_218 : Cond.selects RX8 yX8_check yX8_check ∈ e_wl := e_t4 (i := 218) rfl rfl
theorem q_4_219 : Cond.code yX8_check cX8_check 5 (some FieldType.int) ∈ e_wl := e_t4 (i := 219) rfl rfl
theorem q_4_220 : Cond.methodLink RX8 333 yX6_compareTold ∈ e_wl := e_t4 (i := 220) rfl rfl
theorem q_4_221 : Cond.instanceMethod yX6_compareTold ∈ e_wl := e_t4 (i := 221) rfl rfl
theorem q_4_222 : Cond.selects RX6 yX6_compareTold yX6_compareTold ∈ e_wl := e_t4 (i := 222) rfl rfl
theorem q_4_223 : Cond.code yX6_compareTold cX6_compareTold 7 (some FieldType.int) ∈ e_wl := e_t4 (i := 223) rfl rfl
theorem q_4_224 : Cond.methodLink RX6 147 yX6_stands ∈ e_wl := e_t4 (i := 224) rfl rfl
theorem q_4_225 : Cond.static yX6_stands ∈ e_wl := e_t4 (i := 225) rfl rfl
theorem q_4_226 : Cond.code yX6_stands cX6_stands 4 (some FieldType.boolean) ∈ e_wl := e_t4 (i := 226) rfl rfl
theorem q_4_227 : Cond.methodLink RL 176 yX8_keep ∈ e_wl := e_t4 (i := 227) rfl rfl
theorem q_4_228 : Cond.instanceMethod yX8_keep ∈ e_wl := e_t4 (i := 228) rfl rfl
theorem q_4_229 : Cond.selects RX8 yX8_keep yX8_keep ∈ e_wl := e_t4 (i := 229) rfl rfl
theorem q_4_230 : Cond.code yX8_keep cX8_keep 1 (some FieldType.int) ∈ e_wl := e_t4 (i := 230) rfl rfl
theorem q_4_231 : Cond.methodLink RX8 337 yX7_becomes ∈ e_wl := e_t4 (i := 231) rfl rfl
theorem q_4_232 : Cond.instanceMethod yX7_becomes ∈ e_wl := e_t4 (i := 232) rfl rfl
theorem q_4_233 : Cond.selects RX7 yX7_becomes yX7_becomes ∈ e_wl := e_t4 (i := 233) rfl rfl
theorem q_4_234 : Cond.code yX7_becomes cX7_becomes 3 none ∈ e_wl := e_t4 (i := 234) rfl rfl
theorem q_4_235 : Cond.methodLink RX7 38 yX0_becomes ∈ e_wl := e_t4 (i := 235) rfl rfl
theorem q_4_236 : Cond.methodLink RL 180 yX8_back ∈ e_wl := e_t4 (i := 236) rfl rfl
theorem q_4_237 : Cond.instanceMethod yX8_back ∈ e_wl := e_t4 (i := 237) rfl rfl
theorem q_4_238 : Cond.selects RX8 yX8_back yX8_back ∈ e_wl := e_t4 (i := 238) rfl rfl
theorem q_4_239 : Cond.code yX8_back cX8_back 1 (some FieldType.int) ∈ e_wl := e_t4 (i := 239) rfl rfl
theorem q_5_0 : Cond.methodLink RL 184 yX8_count ∈ e_wl := e_t5 (i := 0) rfl rfl
theorem q_5_1 : Cond.instanceMethod yX8_count ∈ e_wl := e_t5 (i := 1) rfl rfl
theorem q_5_2 : Cond.selects RX8 yX8_count yX8_count ∈ e_wl := e_t5 (i := 2) rfl rfl
theorem q_5_3 : Cond.code yX8_count cX8_count 2 (some FieldType.int) ∈ e_wl := e_t5 (i := 3) rfl rfl
theorem q_5_4 : Cond.classLink RL 10 RX9 ∈ e_wl := e_t5 (i := 4) rfl rfl
theorem q_5_5 : Cond.instantiable RX9 40 ∈ e_wl := e_t5 (i := 5) rfl rfl
theorem q_5_6 : Cond.methodLink RL 12 yX9_init ∈ e_wl := e_t5 (i := 6) rfl rfl
theorem q_5_7 : Cond.instanceMethod yX9_init ∈ e_wl := e_t5 (i := 7) rfl rfl
theorem q_5_8 : Cond.code yX9_init cX9_init 1 none ∈ e_wl := e_t5 (i := 8) rfl rfl
theorem q_5_9 : Cond.methodLink RX9 1 objectInit ∈ e_wl := e_t5 (i := 9) rfl rfl
theorem q_5_10 : Cond.fieldLink RX9 9 "BentBranchesModel" "now" "[I" ∈ e_wl := e_t5 (i := 10) rfl rfl
theorem q_5_11 : Cond.fieldLink RX9 13 "BentBranchesModel" "image" "[I" ∈ e_wl := e_t5 (i := 11) rfl rfl
theorem q_5_12 : Cond.fieldLink RX9 16 "BentBranchesModel" "aside" "[I" ∈ e_wl := e_t5 (i := 12) rfl rfl
theorem q_5_13 : Cond.fieldLink RX9 298 "BentBranchesModel" "hasImage" "Z" ∈ e_wl := e_t5 (i := 13) rfl rfl
theorem q_5_14 : Cond.fieldLink RX9 19 "BentBranchesModel" "terms" "[I" ∈ e_wl := e_t5 (i := 14) rfl rfl
theorem q_5_15 : Cond.fieldLink RX9 22 "BentBranchesModel" "shapes" "[J" ∈ e_wl := e_t5 (i := 15) rfl rfl
theorem q_5_16 : Cond.fieldLink RX9 26 "BentBranchesModel" "parted" "[J" ∈ e_wl := e_t5 (i := 16) rfl rfl
theorem q_5_17 : Cond.fieldLink RX9 195 "BentBranchesModel" "treeMany" "I" ∈ e_wl := e_t5 (i := 17) rfl rfl
theorem q_5_18 : Cond.fieldLink RX9 199 "BentBranchesModel" "treeBelongs" "I" ∈ e_wl := e_t5 (i := 18) rfl rfl
theorem q_5_19 : Cond.fieldLink RX9 202 "BentBranchesModel" "treeEnds" "I" ∈ e_wl := e_t5 (i := 19) rfl rfl
theorem q_5_20 : Cond.fieldLink RX9 29 "BentBranchesModel" "depths" "[I" ∈ e_wl := e_t5 (i := 20) rfl rfl
theorem q_5_21 : Cond.fieldLink RX9 32 "BentBranchesModel" "isOn" "[Z" ∈ e_wl := e_t5 (i := 21) rfl rfl
theorem q_5_22 : Cond.fieldLink RX9 36 "BentBranchesModel" "tape" "[I" ∈ e_wl := e_t5 (i := 22) rfl rfl
theorem q_5_23 : Cond.fieldLink RX9 217 "BentBranchesModel" "taped" "I" ∈ e_wl := e_t5 (i := 23) rfl rfl
theorem q_5_24 : Cond.fieldLink RX9 220 "BentBranchesModel" "next" "I" ∈ e_wl := e_t5 (i := 24) rfl rfl
theorem q_5_25 : Cond.fieldLink RX9 223 "BentBranchesModel" "from" "I" ∈ e_wl := e_t5 (i := 25) rfl rfl
theorem q_5_26 : Cond.fieldLink RX9 229 "BentBranchesModel" "token" "I" ∈ e_wl := e_t5 (i := 26) rfl rfl
theorem q_5_27 : Cond.fieldLink RX9 235 "BentBranchesModel" "value" "I" ∈ e_wl := e_t5 (i := 27) rfl rfl
theorem q_5_28 : Cond.fieldLink RX9 226 "BentBranchesModel" "ended" "I" ∈ e_wl := e_t5 (i := 28) rfl rfl
theorem q_5_29 : Cond.fieldLink RX9 241 "BentBranchesModel" "key" "I" ∈ e_wl := e_t5 (i := 29) rfl rfl
theorem q_5_30 : Cond.fieldLink RX9 39 "BentBranchesModel" "keys" "[C" ∈ e_wl := e_t5 (i := 30) rfl rfl
theorem q_5_31 : Cond.fieldLink RX9 43 "BentBranchesModel" "keyAt" "[I" ∈ e_wl := e_t5 (i := 31) rfl rfl
theorem q_5_32 : Cond.fieldLink RX9 46 "BentBranchesModel" "code" "[I" ∈ e_wl := e_t5 (i := 32) rfl rfl
theorem q_5_33 : Cond.fieldLink RX9 253 "BentBranchesModel" "codes" "I" ∈ e_wl := e_t5 (i := 33) rfl rfl
theorem q_5_34 : Cond.fieldLink RX9 259 "BentBranchesModel" "atoms" "I" ∈ e_wl := e_t5 (i := 34) rfl rfl
theorem q_5_35 : Cond.fieldLink RX9 49 "BentBranchesModel" "waits" "[I" ∈ e_wl := e_t5 (i := 35) rfl rfl
theorem q_5_36 : Cond.fieldLink RX9 247 "BentBranchesModel" "held" "I" ∈ e_wl := e_t5 (i := 36) rfl rfl
theorem q_5_37 : Cond.fieldLink RX9 52 "BentBranchesModel" "tested" "[Z" ∈ e_wl := e_t5 (i := 37) rfl rfl
theorem q_5_38 : Cond.fieldLink RX9 55 "BentBranchesModel" "stack" "[I" ∈ e_wl := e_t5 (i := 38) rfl rfl
theorem q_5_39 : Cond.fieldLink RX9 58 "BentBranchesModel" "facts" "[I" ∈ e_wl := e_t5 (i := 39) rfl rfl
theorem q_5_40 : Cond.fieldLink RX9 61 "BentBranchesModel" "sorts" "[I" ∈ e_wl := e_t5 (i := 40) rfl rfl
theorem q_5_41 : Cond.fieldLink RX9 64 "BentBranchesModel" "sizes" "[I" ∈ e_wl := e_t5 (i := 41) rfl rfl
theorem q_5_42 : Cond.fieldLink RX9 67 "BentBranchesModel" "cells" "[I" ∈ e_wl := e_t5 (i := 42) rfl rfl
theorem q_5_43 : Cond.fieldLink RX9 70 "BentBranchesModel" "holds" "[I" ∈ e_wl := e_t5 (i := 43) rfl rfl
theorem q_5_44 : Cond.fieldLink RX9 73 "BentBranchesModel" "holdsA" "[I" ∈ e_wl := e_t5 (i := 44) rfl rfl
theorem q_5_45 : Cond.fieldLink RX9 76 "BentBranchesModel" "holdsB" "[I" ∈ e_wl := e_t5 (i := 45) rfl rfl
theorem q_5_46 : Cond.fieldLink RX9 79 "BentBranchesModel" "heldCells" "[I" ∈ e_wl := e_t5 (i := 46) rfl rfl
theorem q_5_47 : Cond.fieldLink RX9 82 "BentBranchesModel" "moved" "[I" ∈ e_wl := e_t5 (i := 47) rfl rfl
theorem q_5_48 : Cond.fieldLink RX9 85 "BentBranchesModel" "tells" "[I" ∈ e_wl := e_t5 (i := 48) rfl rfl
theorem q_5_49 : Cond.fieldLink RX9 295 "BentBranchesModel" "waiting" "I" ∈ e_wl := e_t5 (i := 49) rfl rfl
theorem q_5_50 : Cond.laysFinal "BentBranchesModel" "BentBranchesModel" "now" "[I" ∈ e_wl := e_t5 (i := 50) rfl rfl
theorem q_5_52 : Cond.laysFinal "BentBranchesModel" "BentBranchesModel" "image" "[I" ∈ e_wl := e_t5 (i := 52) rfl rfl
theorem q_5_54 : Cond.laysFinal "BentBranchesModel" "BentBranchesModel" "aside" "[I" ∈ e_wl := e_t5 (i := 54) rfl rfl
theorem q_5_56 : Cond.lays "BentBranchesModel" "BentBranchesModel" "hasImage" "Z" ∈ e_wl := e_t5 (i := 56) rfl rfl
theorem q_5_58 : Cond.laysFinal "BentBranchesModel" "BentBranchesModel" "terms" "[I" ∈ e_wl := e_t5 (i := 58) rfl rfl
theorem q_5_60 : Cond.laysFinal "BentBranchesModel" "BentBranchesModel" "shapes" "[J" ∈ e_wl := e_t5 (i := 60) rfl rfl
theorem q_5_62 : Cond.laysFinal "BentBranchesModel" "BentBranchesModel" "parted" "[J" ∈ e_wl := e_t5 (i := 62) rfl rfl
theorem q_5_64 : Cond.lays "BentBranchesModel" "BentBranchesModel" "treeMany" "I" ∈ e_wl := e_t5 (i := 64) rfl rfl
theorem q_5_66 : Cond.lays "BentBranchesModel" "BentBranchesModel" "treeBelongs" "I" ∈ e_wl := e_t5 (i := 66) rfl rfl
theorem q_5_68 : Cond.lays "BentBranchesModel" "BentBranchesModel" "treeEnds" "I" ∈ e_wl := e_t5 (i := 68) rfl rfl
theorem q_5_70 : Cond.laysFinal "BentBranchesModel" "BentBranchesModel" "depths" "[I" ∈ e_wl := e_t5 (i := 70) rfl rfl
theorem q_5_72 : Cond.laysFinal "BentBranchesModel" "BentBranchesModel" "isOn" "[Z" ∈ e_wl := e_t5 (i := 72) rfl rfl
theorem q_5_74 : Cond.laysFinal "BentBranchesModel" "BentBranchesModel" "tape" "[I" ∈ e_wl := e_t5 (i := 74) rfl rfl
theorem q_5_76 : Cond.lays "BentBranchesModel" "BentBranchesModel" "taped" "I" ∈ e_wl := e_t5 (i := 76) rfl rfl
theorem q_5_78 : Cond.lays "BentBranchesModel" "BentBranchesModel" "next" "I" ∈ e_wl := e_t5 (i := 78) rfl rfl
theorem q_5_80 : Cond.lays "BentBranchesModel" "BentBranchesModel" "from" "I" ∈ e_wl := e_t5 (i := 80) rfl rfl
theorem q_5_82 : Cond.lays "BentBranchesModel" "BentBranchesModel" "token" "I" ∈ e_wl := e_t5 (i := 82) rfl rfl
theorem q_5_84 : Cond.lays "BentBranchesModel" "BentBranchesModel" "value" "I" ∈ e_wl := e_t5 (i := 84) rfl rfl
theorem q_5_86 : Cond.lays "BentBranchesModel" "BentBranchesModel" "ended" "I" ∈ e_wl := e_t5 (i := 86) rfl rfl
theorem q_5_88 : Cond.lays "BentBranchesModel" "BentBranchesModel" "key" "I" ∈ e_wl := e_t5 (i := 88) rfl rfl
theorem q_5_90 : Cond.laysFinal "BentBranchesModel" "BentBranchesModel" "keys" "[C" ∈ e_wl := e_t5 (i := 90) rfl rfl
theorem q_5_92 : Cond.laysFinal "BentBranchesModel" "BentBranchesModel" "keyAt" "[I" ∈ e_wl := e_t5 (i := 92) rfl rfl
theorem q_5_94 : Cond.laysFinal "BentBranchesModel" "BentBranchesModel" "code" "[I" ∈ e_wl := e_t5 (i := 94) rfl rfl
theorem q_5_96 : Cond.lays "BentBranchesModel" "BentBranchesModel" "codes" "I" ∈ e_wl := e_t5 (i := 96) rfl rfl
theorem q_5_98 : Cond.lays "BentBranchesModel" "BentBranchesModel" "atoms" "I" ∈ e_wl := e_t5 (i := 98) rfl rfl
theorem q_5_100 : Cond.laysFinal "BentBranchesModel" "BentBranchesModel" "waits" "[I" ∈ e_wl := e_t5 (i := 100) rfl rfl
theorem q_5_102 : Cond.lays "BentBranchesModel" "BentBranchesModel" "held" "I" ∈ e_wl := e_t5 (i := 102) rfl rfl
theorem q_5_104 : Cond.laysFinal "BentBranchesModel" "BentBranchesModel" "tested" "[Z" ∈ e_wl := e_t5 (i := 104) rfl rfl
theorem q_5_106 : Cond.laysFinal "BentBranchesModel" "BentBranchesModel" "stack" "[I" ∈ e_wl := e_t5 (i := 106) rfl rfl
theorem q_5_108 : Cond.laysFinal "BentBranchesModel" "BentBranchesModel" "facts" "[I" ∈ e_wl := e_t5 (i := 108) rfl rfl
theorem q_5_110 : Cond.laysFinal "BentBranchesModel" "BentBranchesModel" "sorts" "[I" ∈ e_wl := e_t5 (i := 110) rfl rfl
theorem q_5_112 : Cond.laysFinal "BentBranchesModel" "BentBranchesModel" "sizes" "[I" ∈ e_wl := e_t5 (i := 112) rfl rfl
theorem q_5_114 : Cond.laysFinal "BentBranchesModel" "BentBranchesModel" "cells" "[I" ∈ e_wl := e_t5 (i := 114) rfl rfl
theorem q_5_116 : Cond.laysFinal "BentBranchesModel" "BentBranchesModel" "holds" "[I" ∈ e_wl := e_t5 (i := 116) rfl rfl
theorem q_5_118 : Cond.laysFinal "BentBranchesModel" "BentBranchesModel" "holdsA" "[I" ∈ e_wl := e_t5 (i := 118) rfl rfl
theorem q_5_120 : Cond.laysFinal "BentBranchesModel" "BentBranchesModel" "holdsB" "[I" ∈ e_wl := e_t5 (i := 120) rfl rfl
theorem q_5_122 : Cond.laysFinal "BentBranchesModel" "BentBranchesModel" "heldCells" "[I" ∈ e_wl := e_t5 (i := 122) rfl rfl
theorem q_5_124 : Cond.laysFinal "BentBranchesModel" "BentBranchesModel" "moved" "[I" ∈ e_wl := e_t5 (i := 124) rfl rfl
theorem q_5_126 : Cond.laysFinal "BentBranchesModel" "BentBranchesModel" "tells" "[I" ∈ e_wl := e_t5 (i := 126) rfl rfl
theorem q_5_128 : Cond.lays "BentBranchesModel" "BentBranchesModel" "waiting" "I" ∈ e_wl := e_t5 (i := 128) rfl rfl
theorem q_5_131 : Cond.arrayClass FieldType.boolean ∈ e_wl := e_t5 (i := 131) rfl rfl
theorem q_5_132 : Cond.arrayClass FieldType.char ∈ e_wl := e_t5 (i := 132) rfl rfl
theorem q_5_133 : Cond.methodLink RL 17 yX9_curve ∈ e_wl := e_t5 (i := 133) rfl rfl
theorem q_5_134 : Cond.instanceMethod yX9_curve ∈ e_wl := e_t5 (i := 134) rfl rfl
theorem q_5_135 : Cond.selects RX9 yX9_curve yX9_curve ∈ e_wl := e_t5 (i := 135) rfl rfl
theorem q_5_136 : Cond.code yX9_curve cX9_curve 2 (some FieldType.int) ∈ e_wl := e_t5 (i := 136) rfl rfl
theorem q_5_137 : Cond.methodLink RX9 88 yX9_in ∈ e_wl := e_t5 (i := 137) rfl rfl
theorem q_5_138 : Cond.static yX9_in ∈ e_wl := e_t5 (i := 138) rfl rfl
theorem q_5_139 : Cond.code yX9_in cX9_in 3 (some FieldType.boolean) ∈ e_wl := e_t5 (i := 139) rfl rfl
theorem q_5_140 : Cond.constant RX9 92 (-1000000001) ∈ e_wl := e_t5 (i := 140) rfl rfl
theorem q_5_141 : Cond.constant RX9 93 (-1000000003) ∈ e_wl := e_t5 (i := 141) rfl rfl
theorem q_5_142 : Cond.methodLink RX9 94 yX9_comes ∈ e_wl := e_t5 (i := 142) rfl rfl
theorem q_5_144 : Cond.instanceMethod yX9_comes ∈ e_wl := e_t5 (i := 144) rfl rfl
theorem q_5_145 : Cond.code yX9_comes cX9_comes 4 (some FieldType.int) ∈ e_wl := e_t5 (i := 145) rfl rfl
theorem q_5_146 : Cond.methodLink RL 22 yX9_put ∈ e_wl := e_t5 (i := 146) rfl rfl
theorem q_5_147 : Cond.instanceMethod yX9_put ∈ e_wl := e_t5 (i := 147) rfl rfl
theorem q_5_148 : Cond.selects RX9 yX9_put yX9_put ∈ e_wl := e_t5 (i := 148) rfl rfl
theorem q_5_149 : Cond.code yX9_put cX9_put 6 (some FieldType.int) ∈ e_wl := e_t5 (i := 149) rfl rfl
theorem q_5_150 : Cond.methodLink RX9 98 yX9_isCurve ∈ e_wl := e_t5 (i := 150) rfl rfl
theorem q_5_152 : Cond.instanceMethod yX9_isCurve ∈ e_wl := e_t5 (i := 152) rfl rfl
theorem q_5_153 : Cond.code yX9_isCurve cX9_isCurve 2 (some FieldType.boolean) ∈ e_wl := e_t5 (i := 153) rfl rfl
theorem q_5_154 : Cond.methodLink RX9 102 yX9_isAt ∈ e_wl := e_t5 (i := 154) rfl rfl
theorem q_5_155 : Cond.static yX9_isAt ∈ e_wl := e_t5 (i := 155) rfl rfl
theorem q_5_156 : Cond.code yX9_isAt cX9_isAt 1 (some FieldType.boolean) ∈ e_wl := e_t5 (i := 156) rfl rfl
theorem q_5_157 : Cond.methodLink RX9 105 yX9_spot ∈ e_wl := e_t5 (i := 157) rfl rfl
theorem q_5_158 : Cond.static yX9_spot ∈ e_wl := e_t5 (i := 158) rfl rfl
theorem q_5_159 : Cond.code yX9_spot cX9_spot 3 (some FieldType.int) ∈ e_wl := e_t5 (i := 159) rfl rfl
theorem q_5_160 : Cond.methodLink RL 26 yX9_term ∈ e_wl := e_t5 (i := 160) rfl rfl
theorem q_5_161 : Cond.instanceMethod yX9_term ∈ e_wl := e_t5 (i := 161) rfl rfl
theorem q_5_162 : Cond.selects RX9 yX9_term yX9_term ∈ e_wl := e_t5 (i := 162) rfl rfl
theorem q_5_163 : Cond.code yX9_term cX9_term 4 (some FieldType.int) ∈ e_wl := e_t5 (i := 163) rfl rfl
theorem q_5_164 : Cond.methodLink RX9 124 yX9_termOf ∈ e_wl := e_t5 (i := 164) rfl rfl
theorem q_5_166 : Cond.instanceMethod yX9_termOf ∈ e_wl := e_t5 (i := 166) rfl rfl
theorem q_5_167 : Cond.code yX9_termOf cX9_termOf 4 (some FieldType.int) ∈ e_wl := e_t5 (i := 167) rfl rfl
theorem q_5_168 : Cond.methodLink RX9 118 yX9_kindOf ∈ e_wl := e_t5 (i := 168) rfl rfl
theorem q_5_170 : Cond.instanceMethod yX9_kindOf ∈ e_wl := e_t5 (i := 170) rfl rfl
theorem q_5_171 : Cond.code yX9_kindOf cX9_kindOf 2 (some FieldType.int) ∈ e_wl := e_t5 (i := 171) rfl rfl
theorem q_5_172 : Cond.methodLink RX9 121 yX9_plain ∈ e_wl := e_t5 (i := 172) rfl rfl
theorem q_5_174 : Cond.instanceMethod yX9_plain ∈ e_wl := e_t5 (i := 174) rfl rfl
theorem q_5_175 : Cond.code yX9_plain cX9_plain 6 (some FieldType.int) ∈ e_wl := e_t5 (i := 175) rfl rfl
theorem q_5_176 : Cond.methodLink RX9 109 yX9_counts ∈ e_wl := e_t5 (i := 176) rfl rfl
theorem q_5_178 : Cond.instanceMethod yX9_counts ∈ e_wl := e_t5 (i := 178) rfl rfl
theorem q_5_179 : Cond.code yX9_counts cX9_counts 3 (some FieldType.int) ∈ e_wl := e_t5 (i := 179) rfl rfl
theorem q_5_180 : Cond.methodLink RX9 112 yX9_worksOut ∈ e_wl := e_t5 (i := 180) rfl rfl
theorem q_5_182 : Cond.instanceMethod yX9_worksOut ∈ e_wl := e_t5 (i := 182) rfl rfl
theorem q_5_183 : Cond.code yX9_worksOut cX9_worksOut 6 (some FieldType.int) ∈ e_wl := e_t5 (i := 183) rfl rfl
theorem q_5_184 : Cond.methodLink RX9 281 yX9_two ∈ e_wl := e_t5 (i := 184) rfl rfl
theorem q_5_185 : Cond.static yX9_two ∈ e_wl := e_t5 (i := 185) rfl rfl
theorem q_5_186 : Cond.code yX9_two cX9_two 3 (some FieldType.int) ∈ e_wl := e_t5 (i := 186) rfl rfl
theorem q_5_187 : Cond.methodLink RX9 115 yX9_within ∈ e_wl := e_t5 (i := 187) rfl rfl
theorem q_5_188 : Cond.static yX9_within ∈ e_wl := e_t5 (i := 188) rfl rfl
theorem q_5_189 : Cond.code yX9_within cX9_within 3 (some FieldType.int) ∈ e_wl := e_t5 (i := 189) rfl rfl
theorem q_5_190 : Cond.methodLink RL 31 yX9_told ∈ e_wl := e_t5 (i := 190) rfl rfl
theorem q_5_191 : Cond.instanceMethod yX9_told ∈ e_wl := e_t5 (i := 191) rfl rfl
theorem q_5_192 : Cond.selects RX9 yX9_told yX9_told ∈ e_wl := e_t5 (i := 192) rfl rfl
theorem q_5_193 : Cond.code yX9_told cX9_told 4 (some FieldType.int) ∈ e_wl := e_t5 (i := 193) rfl rfl
theorem q_5_194 : Cond.methodLink RX9 130 yX9_worthOf ∈ e_wl := e_t5 (i := 194) rfl rfl
theorem q_5_196 : Cond.instanceMethod yX9_worthOf ∈ e_wl := e_t5 (i := 196) rfl rfl
theorem q_5_197 : Cond.code yX9_worthOf cX9_worthOf 4 (some FieldType.int) ∈ e_wl := e_t5 (i := 197) rfl rfl
theorem q_5_198 : Cond.methodLink RX9 127 yX9_manyOf ∈ e_wl := e_t5 (i := 198) rfl rfl
theorem q_5_200 : Cond.instanceMethod yX9_manyOf ∈ e_wl := e_t5 (i := 200) rfl rfl
theorem q_5_201 : Cond.code yX9_manyOf cX9_manyOf 4 (some FieldType.int) ∈ e_wl := e_t5 (i := 201) rfl rfl
theorem q_5_202 : Cond.methodLink RX9 133 yX9_findTerms ∈ e_wl := e_t5 (i := 202) rfl rfl
theorem q_5_204 : Cond.instanceMethod yX9_findTerms ∈ e_wl := e_t5 (i := 204) rfl rfl
theorem q_5_205 : Cond.code yX9_findTerms cX9_findTerms 5 (some FieldType.int) ∈ e_wl := e_t5 (i := 205) rfl rfl
theorem q_5_206 : Cond.methodLink RX9 136 yX9_degreeNow ∈ e_wl := e_t5 (i := 206) rfl rfl
theorem q_5_208 : Cond.instanceMethod yX9_degreeNow ∈ e_wl := e_t5 (i := 208) rfl rfl
theorem q_5_209 : Cond.code yX9_degreeNow cX9_degreeNow 3 (some FieldType.int) ∈ e_wl := e_t5 (i := 209) rfl rfl
theorem q_5_210 : Cond.methodLink RL 35 yX9_as ∈ e_wl := e_t5 (i := 210) rfl rfl
theorem q_5_211 : Cond.instanceMethod yX9_as ∈ e_wl := e_t5 (i := 211) rfl rfl
theorem q_5_212 : Cond.selects RX9 yX9_as yX9_as ∈ e_wl := e_t5 (i := 212) rfl rfl
theorem q_5_213 : Cond.code yX9_as cX9_as 3 (some FieldType.int) ∈ e_wl := e_t5 (i := 213) rfl rfl
theorem q_5_214 : Cond.methodLink RX9 140 yX9_isUnder ∈ e_wl := e_t5 (i := 214) rfl rfl
theorem q_5_215 : Cond.static yX9_isUnder ∈ e_wl := e_t5 (i := 215) rfl rfl
theorem q_5_216 : Cond.code yX9_isUnder cX9_isUnder 2 (some FieldType.boolean) ∈ e_wl := e_t5 (i := 216) rfl rfl
theorem q_5_217 : Cond.constant RX9 144 (-1000000012) ∈ e_wl := e_t5 (i := 217) rfl rfl
theorem q_5_218 : Cond.methodLink RL 39 yX9_turns ∈ e_wl := e_t5 (i := 218) rfl rfl
theorem q_5_219 : Cond.instanceMethod yX9_turns ∈ e_wl := e_t5 (i := 219) rfl rfl
theorem q_5_220 : Cond.selects RX9 yX9_turns yX9_turns ∈ e_wl := e_t5 (i := 220) rfl rfl
theorem q_5_221 : Cond.code yX9_turns cX9_turns 4 (some FieldType.int) ∈ e_wl := e_t5 (i := 221) rfl rfl
theorem q_5_222 : Cond.methodLink RL 44 yX9_mix ∈ e_wl := e_t5 (i := 222) rfl rfl
theorem q_5_223 : Cond.instanceMethod yX9_mix ∈ e_wl := e_t5 (i := 223) rfl rfl
theorem q_5_224 : Cond.selects RX9 yX9_mix yX9_mix ∈ e_wl := e_t5 (i := 224) rfl rfl
theorem q_5_225 : Cond.code yX9_mix cX9_mix 8 (some FieldType.int) ∈ e_wl := e_t5 (i := 225) rfl rfl
theorem q_5_226 : Cond.methodLink RL 48 yX9_deal ∈ e_wl := e_t5 (i := 226) rfl rfl
theorem q_5_227 : Cond.instanceMethod yX9_deal ∈ e_wl := e_t5 (i := 227) rfl rfl
theorem q_5_228 : Cond.selects RX9 yX9_deal yX9_deal ∈ e_wl := e_t5 (i := 228) rfl rfl
theorem q_5_229 : Cond.code yX9_deal cX9_deal 5 (some FieldType.int) ∈ e_wl := e_t5 (i := 229) rfl rfl
theorem q_5_230 : Cond.methodLink RX9 146 yX9_draw ∈ e_wl := e_t5 (i := 230) rfl rfl
theorem q_5_232 : Cond.instanceMethod yX9_draw ∈ e_wl := e_t5 (i := 232) rfl rfl
theorem q_5_233 : Cond.code yX9_draw cX9_draw 1 (some FieldType.int) ∈ e_wl := e_t5 (i := 233) rfl rfl
theorem q_5_234 : Cond.constant RX9 145 (1103515245) ∈ e_wl := e_t5 (i := 234) rfl rfl
theorem q_5_235 : Cond.methodLink RL 52 yX9_seed ∈ e_wl := e_t5 (i := 235) rfl rfl
theorem q_5_236 : Cond.instanceMethod yX9_seed ∈ e_wl := e_t5 (i := 236) rfl rfl
theorem q_5_237 : Cond.selects RX9 yX9_seed yX9_seed ∈ e_wl := e_t5 (i := 237) rfl rfl
theorem q_5_238 : Cond.code yX9_seed cX9_seed 3 (some FieldType.int) ∈ e_wl := e_t5 (i := 238) rfl rfl
theorem q_5_239 : Cond.methodLink RL 57 yX9_value ∈ e_wl := e_t5 (i := 239) rfl rfl
theorem q_6_0 : Cond.instanceMethod yX9_value ∈ e_wl := e_t6 (i := 0) rfl rfl
theorem q_6_1 : Cond.selects RX9 yX9_value yX9_value ∈ e_wl := e_t6 (i := 1) rfl rfl
theorem q_6_2 : Cond.code yX9_value cX9_value 8 (some FieldType.long) ∈ e_wl := e_t6 (i := 2) rfl rfl
theorem q_6_3 : Cond.constantLong RX9 149 (-1000000001) ∈ e_wl := e_t6 (i := 3) rfl rfl
theorem q_6_4 : Cond.methodLink RX9 151 yX9_raised ∈ e_wl := e_t6 (i := 4) rfl rfl
theorem q_6_5 : Cond.static yX9_raised ∈ e_wl := e_t6 (i := 5) rfl rfl
theorem q_6_6 : Cond.code yX9_raised cX9_raised 6 (some FieldType.long) ∈ e_wl := e_t6 (i := 6) rfl rfl
theorem q_6_7 : Cond.methodLink RL 61 yX9_times ∈ e_wl := e_t6 (i := 7) rfl rfl
theorem q_6_8 : Cond.instanceMethod yX9_times ∈ e_wl := e_t6 (i := 8) rfl rfl
theorem q_6_9 : Cond.selects RX9 yX9_times yX9_times ∈ e_wl := e_t6 (i := 9) rfl rfl
theorem q_6_10 : Cond.code yX9_times cX9_times 3 (some FieldType.int) ∈ e_wl := e_t6 (i := 10) rfl rfl
theorem q_6_11 : Cond.methodLink RX9 163 yX9_isPlace ∈ e_wl := e_t6 (i := 11) rfl rfl
theorem q_6_12 : Cond.static yX9_isPlace ∈ e_wl := e_t6 (i := 12) rfl rfl
theorem q_6_13 : Cond.code yX9_isPlace cX9_isPlace 1 (some FieldType.boolean) ∈ e_wl := e_t6 (i := 13) rfl rfl
theorem q_6_14 : Cond.methodLink RX9 166 yX9_findPlace ∈ e_wl := e_t6 (i := 14) rfl rfl
theorem q_6_16 : Cond.instanceMethod yX9_findPlace ∈ e_wl := e_t6 (i := 16) rfl rfl
theorem q_6_17 : Cond.code yX9_findPlace cX9_findPlace 4 none ∈ e_wl := e_t6 (i := 17) rfl rfl
theorem q_6_18 : Cond.methodLink RX9 159 yX9_findShape ∈ e_wl := e_t6 (i := 18) rfl rfl
theorem q_6_20 : Cond.instanceMethod yX9_findShape ∈ e_wl := e_t6 (i := 20) rfl rfl
theorem q_6_21 : Cond.code yX9_findShape cX9_findShape 8 none ∈ e_wl := e_t6 (i := 21) rfl rfl
theorem q_6_22 : Cond.methodLink RX9 155 yX9_choices ∈ e_wl := e_t6 (i := 22) rfl rfl
theorem q_6_23 : Cond.static yX9_choices ∈ e_wl := e_t6 (i := 23) rfl rfl
theorem q_6_24 : Cond.code yX9_choices cX9_choices 5 (some FieldType.long) ∈ e_wl := e_t6 (i := 24) rfl rfl
theorem q_6_25 : Cond.methodLink RX9 169 yX9_timesOf ∈ e_wl := e_t6 (i := 25) rfl rfl
theorem q_6_27 : Cond.instanceMethod yX9_timesOf ∈ e_wl := e_t6 (i := 27) rfl rfl
theorem q_6_28 : Cond.code yX9_timesOf cX9_timesOf 5 (some FieldType.int) ∈ e_wl := e_t6 (i := 28) rfl rfl
theorem q_6_29 : Cond.methodLink RL 65 yX9_shape ∈ e_wl := e_t6 (i := 29) rfl rfl
theorem q_6_30 : Cond.instanceMethod yX9_shape ∈ e_wl := e_t6 (i := 30) rfl rfl
theorem q_6_31 : Cond.selects RX9 yX9_shape yX9_shape ∈ e_wl := e_t6 (i := 31) rfl rfl
theorem q_6_32 : Cond.code yX9_shape cX9_shape 4 (some FieldType.long) ∈ e_wl := e_t6 (i := 32) rfl rfl
theorem q_6_33 : Cond.methodLink RL 69 yX9_lowest ∈ e_wl := e_t6 (i := 33) rfl rfl
theorem q_6_34 : Cond.instanceMethod yX9_lowest ∈ e_wl := e_t6 (i := 34) rfl rfl
theorem q_6_35 : Cond.selects RX9 yX9_lowest yX9_lowest ∈ e_wl := e_t6 (i := 35) rfl rfl
theorem q_6_36 : Cond.code yX9_lowest cX9_lowest 5 (some FieldType.long) ∈ e_wl := e_t6 (i := 36) rfl rfl
theorem q_6_37 : Cond.methodLink RX9 172 yX9_isSome ∈ e_wl := e_t6 (i := 37) rfl rfl
theorem q_6_38 : Cond.static yX9_isSome ∈ e_wl := e_t6 (i := 38) rfl rfl
theorem q_6_39 : Cond.code yX9_isSome cX9_isSome 1 (some FieldType.boolean) ∈ e_wl := e_t6 (i := 39) rfl rfl
theorem q_6_40 : Cond.methodLink RX9 175 yX9_lowestOf ∈ e_wl := e_t6 (i := 40) rfl rfl
theorem q_6_42 : Cond.instanceMethod yX9_lowestOf ∈ e_wl := e_t6 (i := 42) rfl rfl
theorem q_6_43 : Cond.code yX9_lowestOf cX9_lowestOf 4 (some FieldType.long) ∈ e_wl := e_t6 (i := 43) rfl rfl
theorem q_6_44 : Cond.constantLong RX9 179 (-1000000002) ∈ e_wl := e_t6 (i := 44) rfl rfl
theorem q_6_45 : Cond.methodLink RL 73 yX9_slopes ∈ e_wl := e_t6 (i := 45) rfl rfl
theorem q_6_46 : Cond.instanceMethod yX9_slopes ∈ e_wl := e_t6 (i := 46) rfl rfl
theorem q_6_47 : Cond.selects RX9 yX9_slopes yX9_slopes ∈ e_wl := e_t6 (i := 47) rfl rfl
theorem q_6_48 : Cond.code yX9_slopes cX9_slopes 6 (some FieldType.int) ∈ e_wl := e_t6 (i := 48) rfl rfl
theorem q_6_49 : Cond.constant RX9 184 (-1000000002) ∈ e_wl := e_t6 (i := 49) rfl rfl
theorem q_6_50 : Cond.methodLink RX9 185 yX9_isSlope ∈ e_wl := e_t6 (i := 50) rfl rfl
theorem q_6_52 : Cond.instanceMethod yX9_isSlope ∈ e_wl := e_t6 (i := 52) rfl rfl
theorem q_6_53 : Cond.code yX9_isSlope cX9_isSlope 5 (some FieldType.boolean) ∈ e_wl := e_t6 (i := 53) rfl rfl
theorem q_6_54 : Cond.methodLink RX9 181 yX9_isRoot ∈ e_wl := e_t6 (i := 54) rfl rfl
theorem q_6_56 : Cond.instanceMethod yX9_isRoot ∈ e_wl := e_t6 (i := 56) rfl rfl
theorem q_6_57 : Cond.code yX9_isRoot cX9_isRoot 7 (some FieldType.boolean) ∈ e_wl := e_t6 (i := 57) rfl rfl
theorem q_6_58 : Cond.methodLink RL 77 yX9_often ∈ e_wl := e_t6 (i := 58) rfl rfl
theorem q_6_59 : Cond.instanceMethod yX9_often ∈ e_wl := e_t6 (i := 59) rfl rfl
theorem q_6_60 : Cond.selects RX9 yX9_often yX9_often ∈ e_wl := e_t6 (i := 60) rfl rfl
theorem q_6_61 : Cond.code yX9_often cX9_often 6 (some FieldType.int) ∈ e_wl := e_t6 (i := 61) rfl rfl
theorem q_6_62 : Cond.methodLink RX9 188 yX9_parts ∈ e_wl := e_t6 (i := 62) rfl rfl
theorem q_6_64 : Cond.instanceMethod yX9_parts ∈ e_wl := e_t6 (i := 64) rfl rfl
theorem q_6_65 : Cond.code yX9_parts cX9_parts 9 (some FieldType.boolean) ∈ e_wl := e_t6 (i := 65) rfl rfl
theorem q_6_66 : Cond.methodLink RL 81 yX9_blown ∈ e_wl := e_t6 (i := 66) rfl rfl
theorem q_6_67 : Cond.instanceMethod yX9_blown ∈ e_wl := e_t6 (i := 67) rfl rfl
theorem q_6_68 : Cond.selects RX9 yX9_blown yX9_blown ∈ e_wl := e_t6 (i := 68) rfl rfl
theorem q_6_69 : Cond.code yX9_blown cX9_blown 7 (some FieldType.int) ∈ e_wl := e_t6 (i := 69) rfl rfl
theorem q_6_70 : Cond.methodLink RX9 191 yX9_blows ∈ e_wl := e_t6 (i := 70) rfl rfl
theorem q_6_72 : Cond.instanceMethod yX9_blows ∈ e_wl := e_t6 (i := 72) rfl rfl
theorem q_6_73 : Cond.code yX9_blows cX9_blows 10 none ∈ e_wl := e_t6 (i := 73) rfl rfl
theorem q_6_74 : Cond.methodLink RL 85 yX9_tree ∈ e_wl := e_t6 (i := 74) rfl rfl
theorem q_6_75 : Cond.instanceMethod yX9_tree ∈ e_wl := e_t6 (i := 75) rfl rfl
theorem q_6_76 : Cond.selects RX9 yX9_tree yX9_tree ∈ e_wl := e_t6 (i := 76) rfl rfl
theorem q_6_77 : Cond.code yX9_tree cX9_tree 5 (some FieldType.int) ∈ e_wl := e_t6 (i := 77) rfl rfl
theorem q_6_78 : Cond.methodLink RX9 205 yX9_findTree ∈ e_wl := e_t6 (i := 78) rfl rfl
theorem q_6_80 : Cond.instanceMethod yX9_findTree ∈ e_wl := e_t6 (i := 80) rfl rfl
theorem q_6_81 : Cond.code yX9_findTree cX9_findTree 6 none ∈ e_wl := e_t6 (i := 81) rfl rfl
theorem q_6_82 : Cond.methodLink RL 89 yX9_corner ∈ e_wl := e_t6 (i := 82) rfl rfl
theorem q_6_83 : Cond.instanceMethod yX9_corner ∈ e_wl := e_t6 (i := 83) rfl rfl
theorem q_6_84 : Cond.selects RX9 yX9_corner yX9_corner ∈ e_wl := e_t6 (i := 84) rfl rfl
theorem q_6_85 : Cond.code yX9_corner cX9_corner 5 (some FieldType.int) ∈ e_wl := e_t6 (i := 85) rfl rfl
theorem q_6_86 : Cond.methodLink RX9 209 yX9_cornerOf ∈ e_wl := e_t6 (i := 86) rfl rfl
theorem q_6_88 : Cond.instanceMethod yX9_cornerOf ∈ e_wl := e_t6 (i := 88) rfl rfl
theorem q_6_89 : Cond.code yX9_cornerOf cX9_cornerOf 3 (some FieldType.int) ∈ e_wl := e_t6 (i := 89) rfl rfl
theorem q_6_90 : Cond.constant RX9 212 (-1000000005) ∈ e_wl := e_t6 (i := 90) rfl rfl
theorem q_6_91 : Cond.methodLink RL 93 yX9_power ∈ e_wl := e_t6 (i := 91) rfl rfl
theorem q_6_92 : Cond.instanceMethod yX9_power ∈ e_wl := e_t6 (i := 92) rfl rfl
theorem q_6_93 : Cond.selects RX9 yX9_power yX9_power ∈ e_wl := e_t6 (i := 93) rfl rfl
theorem q_6_94 : Cond.code yX9_power cX9_power 11 (some FieldType.int) ∈ e_wl := e_t6 (i := 94) rfl rfl
theorem q_6_95 : Cond.methodLink RX9 213 yX9_divisor ∈ e_wl := e_t6 (i := 95) rfl rfl
theorem q_6_96 : Cond.static yX9_divisor ∈ e_wl := e_t6 (i := 96) rfl rfl
theorem q_6_97 : Cond.code yX9_divisor cX9_divisor 5 (some FieldType.int) ∈ e_wl := e_t6 (i := 97) rfl rfl
theorem q_6_98 : Cond.methodLink RL 97 yX9_line ∈ e_wl := e_t6 (i := 98) rfl rfl
theorem q_6_99 : Cond.instanceMethod yX9_line ∈ e_wl := e_t6 (i := 99) rfl rfl
theorem q_6_100 : Cond.selects RX9 yX9_line yX9_line ∈ e_wl := e_t6 (i := 100) rfl rfl
theorem q_6_101 : Cond.code yX9_line cX9_line 8 (some FieldType.int) ∈ e_wl := e_t6 (i := 101) rfl rfl
theorem q_6_102 : Cond.methodLink RL 101 yX9_all ∈ e_wl := e_t6 (i := 102) rfl rfl
theorem q_6_103 : Cond.instanceMethod yX9_all ∈ e_wl := e_t6 (i := 103) rfl rfl
theorem q_6_104 : Cond.selects RX9 yX9_all yX9_all ∈ e_wl := e_t6 (i := 104) rfl rfl
theorem q_6_105 : Cond.code yX9_all cX9_all 9 (some FieldType.int) ∈ e_wl := e_t6 (i := 105) rfl rfl
theorem q_6_106 : Cond.methodLink RL 105 yX9_on ∈ e_wl := e_t6 (i := 106) rfl rfl
theorem q_6_107 : Cond.instanceMethod yX9_on ∈ e_wl := e_t6 (i := 107) rfl rfl
theorem q_6_108 : Cond.selects RX9 yX9_on yX9_on ∈ e_wl := e_t6 (i := 108) rfl rfl
theorem q_6_109 : Cond.code yX9_on cX9_on 6 (some FieldType.int) ∈ e_wl := e_t6 (i := 109) rfl rfl
theorem q_6_110 : Cond.methodLink RL 109 yX9_genus ∈ e_wl := e_t6 (i := 110) rfl rfl
theorem q_6_111 : Cond.instanceMethod yX9_genus ∈ e_wl := e_t6 (i := 111) rfl rfl
theorem q_6_112 : Cond.selects RX9 yX9_genus yX9_genus ∈ e_wl := e_t6 (i := 112) rfl rfl
theorem q_6_113 : Cond.code yX9_genus cX9_genus 6 (some FieldType.int) ∈ e_wl := e_t6 (i := 113) rfl rfl
theorem q_6_114 : Cond.methodLink RL 113 yX9_both ∈ e_wl := e_t6 (i := 114) rfl rfl
theorem q_6_115 : Cond.instanceMethod yX9_both ∈ e_wl := e_t6 (i := 115) rfl rfl
theorem q_6_116 : Cond.selects RX9 yX9_both yX9_both ∈ e_wl := e_t6 (i := 116) rfl rfl
theorem q_6_117 : Cond.code yX9_both cX9_both 6 (some FieldType.int) ∈ e_wl := e_t6 (i := 117) rfl rfl
theorem q_6_118 : Cond.methodLink RL 117 yX9_feed ∈ e_wl := e_t6 (i := 118) rfl rfl
theorem q_6_119 : Cond.instanceMethod yX9_feed ∈ e_wl := e_t6 (i := 119) rfl rfl
theorem q_6_120 : Cond.selects RX9 yX9_feed yX9_feed ∈ e_wl := e_t6 (i := 120) rfl rfl
theorem q_6_121 : Cond.code yX9_feed cX9_feed 6 (some FieldType.int) ∈ e_wl := e_t6 (i := 121) rfl rfl
theorem q_6_122 : Cond.methodLink RL 121 yX9_trim ∈ e_wl := e_t6 (i := 122) rfl rfl
theorem q_6_123 : Cond.instanceMethod yX9_trim ∈ e_wl := e_t6 (i := 123) rfl rfl
theorem q_6_124 : Cond.selects RX9 yX9_trim yX9_trim ∈ e_wl := e_t6 (i := 124) rfl rfl
theorem q_6_125 : Cond.code yX9_trim cX9_trim 2 (some FieldType.int) ∈ e_wl := e_t6 (i := 125) rfl rfl
theorem q_6_126 : Cond.methodLink RL 126 yX9_text ∈ e_wl := e_t6 (i := 126) rfl rfl
theorem q_6_127 : Cond.instanceMethod yX9_text ∈ e_wl := e_t6 (i := 127) rfl rfl
theorem q_6_128 : Cond.selects RX9 yX9_text yX9_text ∈ e_wl := e_t6 (i := 128) rfl rfl
theorem q_6_129 : Cond.code yX9_text cX9_text 4 (some FieldType.int) ∈ e_wl := e_t6 (i := 129) rfl rfl
theorem q_6_130 : Cond.methodLink RX9 244 yX9_go ∈ e_wl := e_t6 (i := 130) rfl rfl
theorem q_6_132 : Cond.instanceMethod yX9_go ∈ e_wl := e_t6 (i := 132) rfl rfl
theorem q_6_133 : Cond.code yX9_go cX9_go 2 none ∈ e_wl := e_t6 (i := 133) rfl rfl
theorem q_6_134 : Cond.methodLink RX9 232 yX9_isLetter ∈ e_wl := e_t6 (i := 134) rfl rfl
theorem q_6_136 : Cond.instanceMethod yX9_isLetter ∈ e_wl := e_t6 (i := 136) rfl rfl
theorem q_6_137 : Cond.code yX9_isLetter cX9_isLetter 2 (some FieldType.boolean) ∈ e_wl := e_t6 (i := 137) rfl rfl
theorem q_6_138 : Cond.methodLink RX9 238 yX9_isFigure ∈ e_wl := e_t6 (i := 138) rfl rfl
theorem q_6_140 : Cond.instanceMethod yX9_isFigure ∈ e_wl := e_t6 (i := 140) rfl rfl
theorem q_6_141 : Cond.code yX9_isFigure cX9_isFigure 2 (some FieldType.boolean) ∈ e_wl := e_t6 (i := 141) rfl rfl
theorem q_6_142 : Cond.methodLink RX9 275 yX9_takesKey ∈ e_wl := e_t6 (i := 142) rfl rfl
theorem q_6_144 : Cond.instanceMethod yX9_takesKey ∈ e_wl := e_t6 (i := 144) rfl rfl
theorem q_6_145 : Cond.code yX9_takesKey cX9_takesKey 5 (some FieldType.boolean) ∈ e_wl := e_t6 (i := 145) rfl rfl
theorem q_6_146 : Cond.methodLink RX9 278 yX9_takesE ∈ e_wl := e_t6 (i := 146) rfl rfl
theorem q_6_148 : Cond.instanceMethod yX9_takesE ∈ e_wl := e_t6 (i := 148) rfl rfl
theorem q_6_149 : Cond.code yX9_takesE cX9_takesE 5 (some FieldType.boolean) ∈ e_wl := e_t6 (i := 149) rfl rfl
theorem q_6_150 : Cond.methodLink RX9 265 yX9_takesPart ∈ e_wl := e_t6 (i := 150) rfl rfl
theorem q_6_152 : Cond.instanceMethod yX9_takesPart ∈ e_wl := e_t6 (i := 152) rfl rfl
theorem q_6_153 : Cond.code yX9_takesPart cX9_takesPart 2 (some FieldType.boolean) ∈ e_wl := e_t6 (i := 153) rfl rfl
theorem q_6_154 : Cond.methodLink RX9 256 yX9_nameOf ∈ e_wl := e_t6 (i := 154) rfl rfl
theorem q_6_156 : Cond.instanceMethod yX9_nameOf ∈ e_wl := e_t6 (i := 156) rfl rfl
theorem q_6_157 : Cond.code yX9_nameOf cX9_nameOf 2 (some FieldType.int) ∈ e_wl := e_t6 (i := 157) rfl rfl
theorem q_6_158 : Cond.methodLink RX9 262 yX9_settle ∈ e_wl := e_t6 (i := 158) rfl rfl
theorem q_6_160 : Cond.instanceMethod yX9_settle ∈ e_wl := e_t6 (i := 160) rfl rfl
theorem q_6_161 : Cond.code yX9_settle cX9_settle 2 none ∈ e_wl := e_t6 (i := 161) rfl rfl
theorem q_6_162 : Cond.methodLink RX9 250 yX9_rank ∈ e_wl := e_t6 (i := 162) rfl rfl
theorem q_6_163 : Cond.static yX9_rank ∈ e_wl := e_t6 (i := 163) rfl rfl
theorem q_6_164 : Cond.code yX9_rank cX9_rank 1 (some FieldType.int) ∈ e_wl := e_t6 (i := 164) rfl rfl
theorem q_6_165 : Cond.methodLink RX9 269 yX9_notsOpen ∈ e_wl := e_t6 (i := 165) rfl rfl
theorem q_6_167 : Cond.instanceMethod yX9_notsOpen ∈ e_wl := e_t6 (i := 167) rfl rfl
theorem q_6_168 : Cond.code yX9_notsOpen cX9_notsOpen 3 (some FieldType.int) ∈ e_wl := e_t6 (i := 168) rfl rfl
theorem q_6_169 : Cond.methodLink RX9 272 yX9_signHere ∈ e_wl := e_t6 (i := 169) rfl rfl
theorem q_6_171 : Cond.instanceMethod yX9_signHere ∈ e_wl := e_t6 (i := 171) rfl rfl
theorem q_6_172 : Cond.code yX9_signHere cX9_signHere 1 (some FieldType.int) ∈ e_wl := e_t6 (i := 172) rfl rfl
theorem q_6_173 : Cond.methodLink RL 130 yX9_textTold ∈ e_wl := e_t6 (i := 173) rfl rfl
theorem q_6_174 : Cond.instanceMethod yX9_textTold ∈ e_wl := e_t6 (i := 174) rfl rfl
theorem q_6_175 : Cond.selects RX9 yX9_textTold yX9_textTold ∈ e_wl := e_t6 (i := 175) rfl rfl
theorem q_6_176 : Cond.code yX9_textTold cX9_textTold 3 (some FieldType.int) ∈ e_wl := e_t6 (i := 176) rfl rfl
theorem q_6_177 : Cond.methodLink RL 134 yX9_why ∈ e_wl := e_t6 (i := 177) rfl rfl
theorem q_6_178 : Cond.instanceMethod yX9_why ∈ e_wl := e_t6 (i := 178) rfl rfl
theorem q_6_179 : Cond.selects RX9 yX9_why yX9_why ∈ e_wl := e_t6 (i := 179) rfl rfl
theorem q_6_180 : Cond.code yX9_why cX9_why 3 (some FieldType.int) ∈ e_wl := e_t6 (i := 180) rfl rfl
theorem q_6_181 : Cond.methodLink RL 138 yX9_sheet ∈ e_wl := e_t6 (i := 181) rfl rfl
theorem q_6_182 : Cond.instanceMethod yX9_sheet ∈ e_wl := e_t6 (i := 182) rfl rfl
theorem q_6_183 : Cond.selects RX9 yX9_sheet yX9_sheet ∈ e_wl := e_t6 (i := 183) rfl rfl
theorem q_6_184 : Cond.code yX9_sheet cX9_sheet 5 (some FieldType.int) ∈ e_wl := e_t6 (i := 184) rfl rfl
theorem q_6_185 : Cond.methodLink RX9 284 yX9_isSheet ∈ e_wl := e_t6 (i := 185) rfl rfl
theorem q_6_186 : Cond.static yX9_isSheet ∈ e_wl := e_t6 (i := 186) rfl rfl
theorem q_6_187 : Cond.code yX9_isSheet cX9_isSheet 1 (some FieldType.boolean) ∈ e_wl := e_t6 (i := 187) rfl rfl
theorem q_6_188 : Cond.constant RX9 287 (-1000000014) ∈ e_wl := e_t6 (i := 188) rfl rfl
theorem q_6_189 : Cond.methodLink RL 142 yX9_mark ∈ e_wl := e_t6 (i := 189) rfl rfl
theorem q_6_190 : Cond.instanceMethod yX9_mark ∈ e_wl := e_t6 (i := 190) rfl rfl
theorem q_6_191 : Cond.selects RX9 yX9_mark yX9_mark ∈ e_wl := e_t6 (i := 191) rfl rfl
theorem q_6_192 : Cond.code yX9_mark cX9_mark 4 (some FieldType.int) ∈ e_wl := e_t6 (i := 192) rfl rfl
theorem q_6_193 : Cond.constant RX9 288 (-1000000011) ∈ e_wl := e_t6 (i := 193) rfl rfl
theorem q_6_194 : Cond.constant RX9 289 (-1000000013) ∈ e_wl := e_t6 (i := 194) rfl rfl
theorem q_6_195 : Cond.constant RX9 290 (-99999) ∈ e_wl := e_t6 (i := 195) rfl rfl
theorem q_6_196 : Cond.constant RX9 291 (99999) ∈ e_wl := e_t6 (i := 196) rfl rfl
theorem q_6_197 : Cond.methodLink RL 146 yX9_pour ∈ e_wl := e_t6 (i := 197) rfl rfl
theorem q_6_198 : Cond.instanceMethod yX9_pour ∈ e_wl := e_t6 (i := 198) rfl rfl
theorem q_6_199 : Cond.selects RX9 yX9_pour yX9_pour ∈ e_wl := e_t6 (i := 199) rfl rfl
theorem q_6_200 : Cond.code yX9_pour cX9_pour 8 (some FieldType.int) ∈ e_wl := e_t6 (i := 200) rfl rfl
theorem q_6_201 : Cond.methodLink RL 151 yX9_copy ∈ e_wl := e_t6 (i := 201) rfl rfl
theorem q_6_202 : Cond.instanceMethod yX9_copy ∈ e_wl := e_t6 (i := 202) rfl rfl
theorem q_6_203 : Cond.selects RX9 yX9_copy yX9_copy ∈ e_wl := e_t6 (i := 203) rfl rfl
theorem q_6_204 : Cond.code yX9_copy cX9_copy 7 (some FieldType.int) ∈ e_wl := e_t6 (i := 204) rfl rfl
theorem q_6_205 : Cond.methodLink RL 155 yX9_lay ∈ e_wl := e_t6 (i := 205) rfl rfl
theorem q_6_206 : Cond.instanceMethod yX9_lay ∈ e_wl := e_t6 (i := 206) rfl rfl
theorem q_6_207 : Cond.selects RX9 yX9_lay yX9_lay ∈ e_wl := e_t6 (i := 207) rfl rfl
theorem q_6_208 : Cond.code yX9_lay cX9_lay 6 (some FieldType.int) ∈ e_wl := e_t6 (i := 208) rfl rfl
theorem q_6_209 : Cond.methodLink RX9 292 yX9_isSlot ∈ e_wl := e_t6 (i := 209) rfl rfl
theorem q_6_210 : Cond.static yX9_isSlot ∈ e_wl := e_t6 (i := 210) rfl rfl
theorem q_6_211 : Cond.code yX9_isSlot cX9_isSlot 1 (some FieldType.boolean) ∈ e_wl := e_t6 (i := 211) rfl rfl
theorem q_6_212 : Cond.methodLink RL 159 yX9_ask ∈ e_wl := e_t6 (i := 212) rfl rfl
theorem q_6_213 : Cond.instanceMethod yX9_ask ∈ e_wl := e_t6 (i := 213) rfl rfl
theorem q_6_214 : Cond.selects RX9 yX9_ask yX9_ask ∈ e_wl := e_t6 (i := 214) rfl rfl
theorem q_6_215 : Cond.code yX9_ask cX9_ask 3 (some FieldType.int) ∈ e_wl := e_t6 (i := 215) rfl rfl
theorem q_6_216 : Cond.methodLink RL 163 yX9_item ∈ e_wl := e_t6 (i := 216) rfl rfl
theorem q_6_217 : Cond.instanceMethod yX9_item ∈ e_wl := e_t6 (i := 217) rfl rfl
theorem q_6_218 : Cond.selects RX9 yX9_item yX9_item ∈ e_wl := e_t6 (i := 218) rfl rfl
theorem q_6_219 : Cond.code yX9_item cX9_item 4 (some FieldType.int) ∈ e_wl := e_t6 (i := 219) rfl rfl
theorem q_6_220 : Cond.methodLink RL 167 yX9_rest ∈ e_wl := e_t6 (i := 220) rfl rfl
theorem q_6_221 : Cond.instanceMethod yX9_rest ∈ e_wl := e_t6 (i := 221) rfl rfl
theorem q_6_222 : Cond.selects RX9 yX9_rest yX9_rest ∈ e_wl := e_t6 (i := 222) rfl rfl
theorem q_6_223 : Cond.code yX9_rest cX9_rest 3 (some FieldType.int) ∈ e_wl := e_t6 (i := 223) rfl rfl
theorem q_6_224 : Cond.methodLink RL 171 yX9_tell ∈ e_wl := e_t6 (i := 224) rfl rfl
theorem q_6_225 : Cond.instanceMethod yX9_tell ∈ e_wl := e_t6 (i := 225) rfl rfl
theorem q_6_226 : Cond.selects RX9 yX9_tell yX9_tell ∈ e_wl := e_t6 (i := 226) rfl rfl
theorem q_6_227 : Cond.code yX9_tell cX9_tell 2 (some FieldType.int) ∈ e_wl := e_t6 (i := 227) rfl rfl
theorem q_6_228 : Cond.methodLink RL 175 yX9_check ∈ e_wl := e_t6 (i := 228) rfl rfl
theorem q_6_229 : Cond.instanceMethod yX9_check ∈ e_wl := e_t6 (i := 229) rfl rfl
theorem q_6_230 : Cond.selects RX9 yX9_check yX9_check ∈ e_wl := e_t6 (i := 230) rfl rfl
theorem q_6_231 : Cond.code yX9_check cX9_check 9 (some FieldType.int) ∈ e_wl := e_t6 (i := 231) rfl rfl
theorem q_6_232 : Cond.methodLink RX9 302 yX9_copyAll ∈ e_wl := e_t6 (i := 232) rfl rfl
theorem q_6_233 : Cond.static yX9_copyAll ∈ e_wl := e_t6 (i := 233) rfl rfl
theorem q_6_234 : Cond.code yX9_copyAll cX9_copyAll 3 none ∈ e_wl := e_t6 (i := 234) rfl rfl
theorem q_6_235 : Cond.methodLink RL 179 yX9_keep ∈ e_wl := e_t6 (i := 235) rfl rfl
theorem q_6_236 : Cond.instanceMethod yX9_keep ∈ e_wl := e_t6 (i := 236) rfl rfl
theorem q_6_237 : Cond.selects RX9 yX9_keep yX9_keep ∈ e_wl := e_t6 (i := 237) rfl rfl
theorem q_6_238 : Cond.code yX9_keep cX9_keep 1 (some FieldType.int) ∈ e_wl := e_t6 (i := 238) rfl rfl
theorem q_6_239 : Cond.methodLink RL 183 yX9_back ∈ e_wl := e_t6 (i := 239) rfl rfl
theorem q_7_0 : Cond.instanceMethod yX9_back ∈ e_wl := e_t7 (i := 0) rfl rfl
theorem q_7_1 : Cond.selects RX9 yX9_back yX9_back ∈ e_wl := e_t7 (i := 1) rfl rfl
theorem q_7_2 : Cond.code yX9_back cX9_back 1 (some FieldType.int) ∈ e_wl := e_t7 (i := 2) rfl rfl
theorem q_7_3 : Cond.methodLink RL 187 yX9_count ∈ e_wl := e_t7 (i := 3) rfl rfl
theorem q_7_4 : Cond.instanceMethod yX9_count ∈ e_wl := e_t7 (i := 4) rfl rfl
theorem q_7_5 : Cond.selects RX9 yX9_count yX9_count ∈ e_wl := e_t7 (i := 5) rfl rfl
theorem q_7_6 : Cond.code yX9_count cX9_count 2 (some FieldType.int) ∈ e_wl := e_t7 (i := 6) rfl rfl
theorem q_7_7 : Cond.fieldLink RJ0 9 "java/lang/String" "value" "[B" ∈ e_wl := e_t7 (i := 7) rfl rfl
theorem q_7_8 : Cond.fieldLink RJ0 15 "java/lang/String" "coder" "B" ∈ e_wl := e_t7 (i := 8) rfl rfl
theorem q_p_0 : Cond.selects RX6 yX6_setTerm yX6_setTerm ∈ e_wl := e_tp (i := 0) rfl rfl
theorem q_p_1 : Cond.selects RX6 yX6_termOf yX6_termOf ∈ e_wl := e_tp (i := 1) rfl rfl
theorem q_p_2 : Cond.selects RX8 yX8_shapeAt yX8_shapeAt ∈ e_wl := e_tp (i := 2) rfl rfl
theorem q_p_3 : Cond.selects RX6 yX6_partBy yX6_partBy ∈ e_wl := e_tp (i := 3) rfl rfl
theorem q_p_4 : Cond.selects RX6 yX6_clearTree yX6_clearTree ∈ e_wl := e_tp (i := 4) rfl rfl
theorem q_p_5 : Cond.selects RX5 yX5_readKey yX5_readKey ∈ e_wl := e_tp (i := 5) rfl rfl
theorem q_p_6 : Cond.selects RX5 yX5_skipBlanks yX5_skipBlanks ∈ e_wl := e_tp (i := 6) rfl rfl
theorem q_p_7 : Cond.selects RX5 yX5_byteAt yX5_byteAt ∈ e_wl := e_tp (i := 7) rfl rfl
theorem q_p_8 : Cond.selects RX5 yX5_isWord yX5_isWord ∈ e_wl := e_tp (i := 8) rfl rfl
theorem q_p_9 : Cond.selects RX5 yX5_nextOf yX5_nextOf ∈ e_wl := e_tp (i := 9) rfl rfl
theorem q_p_10 : Cond.selects RX5 yX5_readNumber yX5_readNumber ∈ e_wl := e_tp (i := 10) rfl rfl
theorem q_p_11 : Cond.selects RX5 yX5_write yX5_write ∈ e_wl := e_tp (i := 11) rfl rfl
theorem q_p_12 : Cond.selects RX5 yX5_readName yX5_readName ∈ e_wl := e_tp (i := 12) rfl rfl
theorem q_p_13 : Cond.selects RX8 yX8_sheetOf yX8_sheetOf ∈ e_wl := e_tp (i := 13) rfl rfl
theorem q_p_14 : Cond.selects RX8 yX8_slotOf yX8_slotOf ∈ e_wl := e_tp (i := 14) rfl rfl
theorem q_p_15 : Cond.selects RX9 yX9_comes yX9_comes ∈ e_wl := e_tp (i := 15) rfl rfl
theorem q_p_16 : Cond.selects RX9 yX9_isCurve yX9_isCurve ∈ e_wl := e_tp (i := 16) rfl rfl
theorem q_p_17 : Cond.selects RX9 yX9_termOf yX9_termOf ∈ e_wl := e_tp (i := 17) rfl rfl
theorem q_p_18 : Cond.selects RX9 yX9_kindOf yX9_kindOf ∈ e_wl := e_tp (i := 18) rfl rfl
theorem q_p_19 : Cond.selects RX9 yX9_plain yX9_plain ∈ e_wl := e_tp (i := 19) rfl rfl
theorem q_p_20 : Cond.selects RX9 yX9_counts yX9_counts ∈ e_wl := e_tp (i := 20) rfl rfl
theorem q_p_21 : Cond.selects RX9 yX9_worksOut yX9_worksOut ∈ e_wl := e_tp (i := 21) rfl rfl
theorem q_p_22 : Cond.selects RX9 yX9_worthOf yX9_worthOf ∈ e_wl := e_tp (i := 22) rfl rfl
theorem q_p_23 : Cond.selects RX9 yX9_manyOf yX9_manyOf ∈ e_wl := e_tp (i := 23) rfl rfl
theorem q_p_24 : Cond.selects RX9 yX9_findTerms yX9_findTerms ∈ e_wl := e_tp (i := 24) rfl rfl
theorem q_p_25 : Cond.selects RX9 yX9_degreeNow yX9_degreeNow ∈ e_wl := e_tp (i := 25) rfl rfl
theorem q_p_26 : Cond.selects RX9 yX9_draw yX9_draw ∈ e_wl := e_tp (i := 26) rfl rfl
theorem q_p_27 : Cond.selects RX9 yX9_findPlace yX9_findPlace ∈ e_wl := e_tp (i := 27) rfl rfl
theorem q_p_28 : Cond.selects RX9 yX9_findShape yX9_findShape ∈ e_wl := e_tp (i := 28) rfl rfl
theorem q_p_29 : Cond.selects RX9 yX9_timesOf yX9_timesOf ∈ e_wl := e_tp (i := 29) rfl rfl
theorem q_p_30 : Cond.selects RX9 yX9_lowestOf yX9_lowestOf ∈ e_wl := e_tp (i := 30) rfl rfl
theorem q_p_31 : Cond.selects RX9 yX9_isSlope yX9_isSlope ∈ e_wl := e_tp (i := 31) rfl rfl
theorem q_p_32 : Cond.selects RX9 yX9_isRoot yX9_isRoot ∈ e_wl := e_tp (i := 32) rfl rfl
theorem q_p_33 : Cond.selects RX9 yX9_parts yX9_parts ∈ e_wl := e_tp (i := 33) rfl rfl
theorem q_p_34 : Cond.selects RX9 yX9_blows yX9_blows ∈ e_wl := e_tp (i := 34) rfl rfl
theorem q_p_35 : Cond.selects RX9 yX9_findTree yX9_findTree ∈ e_wl := e_tp (i := 35) rfl rfl
theorem q_p_36 : Cond.selects RX9 yX9_cornerOf yX9_cornerOf ∈ e_wl := e_tp (i := 36) rfl rfl
theorem q_p_37 : Cond.selects RX9 yX9_go yX9_go ∈ e_wl := e_tp (i := 37) rfl rfl
theorem q_p_38 : Cond.selects RX9 yX9_isLetter yX9_isLetter ∈ e_wl := e_tp (i := 38) rfl rfl
theorem q_p_39 : Cond.selects RX9 yX9_isFigure yX9_isFigure ∈ e_wl := e_tp (i := 39) rfl rfl
theorem q_p_40 : Cond.selects RX9 yX9_takesKey yX9_takesKey ∈ e_wl := e_tp (i := 40) rfl rfl
theorem q_p_41 : Cond.selects RX9 yX9_takesE yX9_takesE ∈ e_wl := e_tp (i := 41) rfl rfl
theorem q_p_42 : Cond.selects RX9 yX9_takesPart yX9_takesPart ∈ e_wl := e_tp (i := 42) rfl rfl
theorem q_p_43 : Cond.selects RX9 yX9_nameOf yX9_nameOf ∈ e_wl := e_tp (i := 43) rfl rfl
theorem q_p_44 : Cond.selects RX9 yX9_settle yX9_settle ∈ e_wl := e_tp (i := 44) rfl rfl
theorem q_p_45 : Cond.selects RX9 yX9_notsOpen yX9_notsOpen ∈ e_wl := e_tp (i := 45) rfl rfl
theorem q_p_46 : Cond.selects RX9 yX9_signHere yX9_signHere ∈ e_wl := e_tp (i := 46) rfl rfl
theorem e_uwX0 : wsX00 = [Cond.lays "BentBranches$Curve" "BentBranches$Curve" "kind" "I", Cond.laysFinal "BentBranches$Curve" "BentBranches$Curve" "numbers" "[I"] := rfl
theorem inX0 : ∀ w ∈ wsX00, w ∈ e_wl := by rw [e_uwX0]; exact List.forall_mem_cons.mpr ⟨q_1_45, List.forall_mem_cons.mpr ⟨q_1_47, fun _ h => absurd h List.not_mem_nil⟩⟩
theorem e_uwX1 : wsX10 = [Cond.laysFinal "BentBranches$Law" "BentBranches$Law" "key" "I", Cond.laysFinal "BentBranches$Law" "BentBranches$Law" "leaves" "I", Cond.laysFinal "BentBranches$Law" "BentBranches$Law" "code" "[I"] := rfl
theorem inX1 : ∀ w ∈ wsX10, w ∈ e_wl := by rw [e_uwX1]; exact List.forall_mem_cons.mpr ⟨q_4_111, List.forall_mem_cons.mpr ⟨q_4_113, List.forall_mem_cons.mpr ⟨q_4_115, fun _ h => absurd h List.not_mem_nil⟩⟩⟩
theorem e_uwX2 : wsX20 = [Cond.lays "BentBranches$Row" "BentBranches$Row" "sort" "I", Cond.lays "BentBranches$Row" "BentBranches$Row" "size" "I", Cond.laysFinal "BentBranches$Row" "BentBranches$Row" "places" "[I"] := rfl
theorem inX2 : ∀ w ∈ wsX20, w ∈ e_wl := by rw [e_uwX2]; exact List.forall_mem_cons.mpr ⟨q_1_166, List.forall_mem_cons.mpr ⟨q_1_168, List.forall_mem_cons.mpr ⟨q_1_170, fun _ h => absurd h List.not_mem_nil⟩⟩⟩
theorem e_uwX3 : wsX30 = [Cond.laysFinal "BentBranches$Shape" "BentBranches$Shape" "numbers" "[J"] := rfl
theorem inX3 : ∀ w ∈ wsX30, w ∈ e_wl := by rw [e_uwX3]; exact List.forall_mem_cons.mpr ⟨q_1_87, fun _ h => absurd h List.not_mem_nil⟩
theorem e_uwX4 : wsX40 = [Cond.lays "BentBranches$Slot" "BentBranches$Slot" "thing" "I", Cond.lays "BentBranches$Slot" "BentBranches$Slot" "number" "I", Cond.laysFinal "BentBranches$Slot" "BentBranches$Slot" "curve" "LBentBranches$Curve;", Cond.laysFinal "BentBranches$Slot" "BentBranches$Slot" "row" "LBentBranches$Row;"] := rfl
theorem inX4 : ∀ w ∈ wsX40, w ∈ e_wl := by rw [e_uwX4]; exact List.forall_mem_cons.mpr ⟨q_1_190, List.forall_mem_cons.mpr ⟨q_1_192, List.forall_mem_cons.mpr ⟨q_1_194, List.forall_mem_cons.mpr ⟨q_1_196, fun _ h => absurd h List.not_mem_nil⟩⟩⟩⟩
theorem e_uwX5 : wsX50 = [Cond.lays "BentBranches$Tape" "BentBranches$Tape" "length" "I", Cond.laysFinal "BentBranches$Tape" "BentBranches$Tape" "bytes" "[I", Cond.laysFinal "BentBranches$Tape" "BentBranches$Tape" "code" "[I", Cond.lays "BentBranches$Tape" "BentBranches$Tape" "steps" "I", Cond.lays "BentBranches$Tape" "BentBranches$Tape" "at" "I", Cond.lays "BentBranches$Tape" "BentBranches$Tape" "key" "I", Cond.lays "BentBranches$Tape" "BentBranches$Tape" "leaves" "I"] := rfl
theorem inX5 : ∀ w ∈ wsX50, w ∈ e_wl := by rw [e_uwX5]; exact List.forall_mem_cons.mpr ⟨q_1_136, List.forall_mem_cons.mpr ⟨q_1_138, List.forall_mem_cons.mpr ⟨q_1_140, List.forall_mem_cons.mpr ⟨q_1_142, List.forall_mem_cons.mpr ⟨q_1_144, List.forall_mem_cons.mpr ⟨q_1_146, List.forall_mem_cons.mpr ⟨q_1_148, fun _ h => absurd h List.not_mem_nil⟩⟩⟩⟩⟩⟩⟩
theorem e_uwX6 : wsX60 = [Cond.lays "BentBranches$View" "BentBranches$View" "treeShapes" "I", Cond.lays "BentBranches$View" "BentBranches$View" "treeBelongs" "I", Cond.lays "BentBranches$View" "BentBranches$View" "treeEnds" "I", Cond.laysFinal "BentBranches$View" "BentBranches$View" "world" "LBentBranches$World;", Cond.laysFinal "BentBranches$View" "BentBranches$View" "terms" "[I", Cond.laysFinal "BentBranches$View" "BentBranches$View" "times" "[I", Cond.laysFinal "BentBranches$View" "BentBranches$View" "earlier" "[I", Cond.laysFinal "BentBranches$View" "BentBranches$View" "shapes" "[LBentBranches$Shape;", Cond.laysFinal "BentBranches$View" "BentBranches$View" "powers" "[J"] := rfl
theorem inX6 : ∀ w ∈ wsX60, w ∈ e_wl := by rw [e_uwX6]; exact List.forall_mem_cons.mpr ⟨q_1_103, List.forall_mem_cons.mpr ⟨q_1_105, List.forall_mem_cons.mpr ⟨q_1_107, List.forall_mem_cons.mpr ⟨q_1_109, List.forall_mem_cons.mpr ⟨q_1_111, List.forall_mem_cons.mpr ⟨q_1_113, List.forall_mem_cons.mpr ⟨q_1_115, List.forall_mem_cons.mpr ⟨q_1_117, List.forall_mem_cons.mpr ⟨q_1_119, fun _ h => absurd h List.not_mem_nil⟩⟩⟩⟩⟩⟩⟩⟩⟩
theorem e_uwX7 : wsX70 = [Cond.lays "BentBranches$World" "BentBranches$World" "curveCount" "I", Cond.lays "BentBranches$World" "BentBranches$World" "lawCount" "I", Cond.lays "BentBranches$World" "BentBranches$World" "z" "I", Cond.laysFinal "BentBranches$World" "BentBranches$World" "curves" "[LBentBranches$Curve;", Cond.laysFinal "BentBranches$World" "BentBranches$World" "laws" "[LBentBranches$Law;", Cond.laysFinal "BentBranches$World" "BentBranches$World" "stack" "[I"] := rfl
theorem inX7 : ∀ w ∈ wsX70, w ∈ e_wl := by rw [e_uwX7]; exact List.forall_mem_cons.mpr ⟨q_1_60, List.forall_mem_cons.mpr ⟨q_1_62, List.forall_mem_cons.mpr ⟨q_1_64, List.forall_mem_cons.mpr ⟨q_1_66, List.forall_mem_cons.mpr ⟨q_1_68, List.forall_mem_cons.mpr ⟨q_1_70, fun _ h => absurd h List.not_mem_nil⟩⟩⟩⟩⟩⟩
theorem e_uwX8 : wsX80 = [Cond.laysFinal "BentBranches" "BentBranches" "now" "LBentBranches$World;", Cond.laysFinal "BentBranches" "BentBranches" "image" "LBentBranches$World;", Cond.laysFinal "BentBranches" "BentBranches" "view" "LBentBranches$View;", Cond.laysFinal "BentBranches" "BentBranches" "imageView" "LBentBranches$View;", Cond.laysFinal "BentBranches" "BentBranches" "tape" "LBentBranches$Tape;", Cond.laysFinal "BentBranches" "BentBranches" "sheets" "[LBentBranches$Row;", Cond.laysFinal "BentBranches" "BentBranches" "slots" "[LBentBranches$Slot;", Cond.laysFinal "BentBranches" "BentBranches" "waiting" "[I", Cond.lays "BentBranches" "BentBranches" "waitingCount" "I", Cond.lays "BentBranches" "BentBranches" "imageKept" "Z"] := rfl
theorem inX8 : ∀ w ∈ wsX80, w ∈ e_wl := by rw [e_uwX8]; exact List.forall_mem_cons.mpr ⟨q_1_209, List.forall_mem_cons.mpr ⟨q_1_211, List.forall_mem_cons.mpr ⟨q_1_213, List.forall_mem_cons.mpr ⟨q_1_215, List.forall_mem_cons.mpr ⟨q_1_217, List.forall_mem_cons.mpr ⟨q_1_219, List.forall_mem_cons.mpr ⟨q_1_221, List.forall_mem_cons.mpr ⟨q_1_223, List.forall_mem_cons.mpr ⟨q_1_225, List.forall_mem_cons.mpr ⟨q_1_227, fun _ h => absurd h List.not_mem_nil⟩⟩⟩⟩⟩⟩⟩⟩⟩⟩
theorem e_uwX9 : wsX90 = [Cond.laysFinal "BentBranchesModel" "BentBranchesModel" "now" "[I", Cond.laysFinal "BentBranchesModel" "BentBranchesModel" "image" "[I", Cond.laysFinal "BentBranchesModel" "BentBranchesModel" "aside" "[I", Cond.lays "BentBranchesModel" "BentBranchesModel" "hasImage" "Z", Cond.laysFinal "BentBranchesModel" "BentBranchesModel" "terms" "[I", Cond.laysFinal "BentBranchesModel" "BentBranchesModel" "shapes" "[J", Cond.laysFinal "BentBranchesModel" "BentBranchesModel" "parted" "[J", Cond.lays "BentBranchesModel" "BentBranchesModel" "treeMany" "I", Cond.lays "BentBranchesModel" "BentBranchesModel" "treeBelongs" "I", Cond.lays "BentBranchesModel" "BentBranchesModel" "treeEnds" "I", Cond.laysFinal "BentBranchesModel" "BentBranchesModel" "depths" "[I", Cond.laysFinal "BentBranchesModel" "BentBranchesModel" "isOn" "[Z", Cond.laysFinal "BentBranchesModel" "BentBranchesModel" "tape" "[I", Cond.lays "BentBranchesModel" "BentBranchesModel" "taped" "I", Cond.lays "BentBranchesModel" "BentBranchesModel" "next" "I", Cond.lays "BentBranchesModel" "BentBranchesModel" "from" "I", Cond.lays "BentBranchesModel" "BentBranchesModel" "token" "I", Cond.lays "BentBranchesModel" "BentBranchesModel" "value" "I", Cond.lays "BentBranchesModel" "BentBranchesModel" "ended" "I", Cond.lays "BentBranchesModel" "BentBranchesModel" "key" "I", Cond.laysFinal "BentBranchesModel" "BentBranchesModel" "keys" "[C", Cond.laysFinal "BentBranchesModel" "BentBranchesModel" "keyAt" "[I", Cond.laysFinal "BentBranchesModel" "BentBranchesModel" "code" "[I", Cond.lays "BentBranchesModel" "BentBranchesModel" "codes" "I", Cond.lays "BentBranchesModel" "BentBranchesModel" "atoms" "I", Cond.laysFinal "BentBranchesModel" "BentBranchesModel" "waits" "[I", Cond.lays "BentBranchesModel" "BentBranchesModel" "held" "I", Cond.laysFinal "BentBranchesModel" "BentBranchesModel" "tested" "[Z", Cond.laysFinal "BentBranchesModel" "BentBranchesModel" "stack" "[I", Cond.laysFinal "BentBranchesModel" "BentBranchesModel" "facts" "[I", Cond.laysFinal "BentBranchesModel" "BentBranchesModel" "sorts" "[I", Cond.laysFinal "BentBranchesModel" "BentBranchesModel" "sizes" "[I", Cond.laysFinal "BentBranchesModel" "BentBranchesModel" "cells" "[I", Cond.laysFinal "BentBranchesModel" "BentBranchesModel" "holds" "[I", Cond.laysFinal "BentBranchesModel" "BentBranchesModel" "holdsA" "[I", Cond.laysFinal "BentBranchesModel" "BentBranchesModel" "holdsB" "[I", Cond.laysFinal "BentBranchesModel" "BentBranchesModel" "heldCells" "[I", Cond.laysFinal "BentBranchesModel" "BentBranchesModel" "moved" "[I", Cond.laysFinal "BentBranchesModel" "BentBranchesModel" "tells" "[I", Cond.lays "BentBranchesModel" "BentBranchesModel" "waiting" "I"] := rfl
theorem inX9 : ∀ w ∈ wsX90, w ∈ e_wl := by rw [e_uwX9]; exact List.forall_mem_cons.mpr ⟨q_5_50, List.forall_mem_cons.mpr ⟨q_5_52, List.forall_mem_cons.mpr ⟨q_5_54, List.forall_mem_cons.mpr ⟨q_5_56, List.forall_mem_cons.mpr ⟨q_5_58, List.forall_mem_cons.mpr ⟨q_5_60, List.forall_mem_cons.mpr ⟨q_5_62, List.forall_mem_cons.mpr ⟨q_5_64, List.forall_mem_cons.mpr ⟨q_5_66, List.forall_mem_cons.mpr ⟨q_5_68, List.forall_mem_cons.mpr ⟨q_5_70, List.forall_mem_cons.mpr ⟨q_5_72, List.forall_mem_cons.mpr ⟨q_5_74, List.forall_mem_cons.mpr ⟨q_5_76, List.forall_mem_cons.mpr ⟨q_5_78, List.forall_mem_cons.mpr ⟨q_5_80, List.forall_mem_cons.mpr ⟨q_5_82, List.forall_mem_cons.mpr ⟨q_5_84, List.forall_mem_cons.mpr ⟨q_5_86, List.forall_mem_cons.mpr ⟨q_5_88, List.forall_mem_cons.mpr ⟨q_5_90, List.forall_mem_cons.mpr ⟨q_5_92, List.forall_mem_cons.mpr ⟨q_5_94, List.forall_mem_cons.mpr ⟨q_5_96, List.forall_mem_cons.mpr ⟨q_5_98, List.forall_mem_cons.mpr ⟨q_5_100, List.forall_mem_cons.mpr ⟨q_5_102, List.forall_mem_cons.mpr ⟨q_5_104, List.forall_mem_cons.mpr ⟨q_5_106, List.forall_mem_cons.mpr ⟨q_5_108, List.forall_mem_cons.mpr ⟨q_5_110, List.forall_mem_cons.mpr ⟨q_5_112, List.forall_mem_cons.mpr ⟨q_5_114, List.forall_mem_cons.mpr ⟨q_5_116, List.forall_mem_cons.mpr ⟨q_5_118, List.forall_mem_cons.mpr ⟨q_5_120, List.forall_mem_cons.mpr ⟨q_5_122, List.forall_mem_cons.mpr ⟨q_5_124, List.forall_mem_cons.mpr ⟨q_5_126, List.forall_mem_cons.mpr ⟨q_5_128, fun _ h => absurd h List.not_mem_nil⟩⟩⟩⟩⟩⟩⟩⟩⟩⟩⟩⟩⟩⟩⟩⟩⟩⟩⟩⟩⟩⟩⟩⟩⟩⟩⟩⟩⟩⟩⟩⟩⟩⟩⟩⟩⟩⟩⟩⟩
